/-! THE LAW: cases 22 to 32 (printed by gen/lawmain.py) -/
theorem ml_L_229 : Cond.methodLink RL 229 yL_isAwake ∈ me_gw := (me_gm 1325 (by decide +kernel) (by decide +kernel))
theorem mh_L_isAwake : Cond.codeWith yL_isAwake cL_isAwake 4 (some .int) [(0, 16, 19, 13)] ∈ me_gw := (me_gm 1327 (by decide +kernel) (by decide +kernel))
theorem si_L_isAwake : Cond.static yL_isAwake ∈ me_gw := (me_gm 1326 (by decide +kernel) (by decide +kernel))
theorem ml_L_231 : Cond.methodLink RL 231 yX12_isAwake ∈ me_gw := (me_gm 1953 (by decide +kernel) (by decide +kernel))
theorem mv_M_isAwake : me_MV yX12_isAwake cX12_isAwake 2 (some .boolean) 1 := ⟨(me_gm 1956 (by decide +kernel) (by decide +kernel)), (me_gm 88 (by decide +kernel) (by decide +kernel)), ⟨by decide +kernel, by decide +kernel⟩, by decide +kernel, (me_gm 1954 (by decide +kernel) (by decide +kernel)), (me_gm 1955 (by decide +kernel) (by decide +kernel))⟩
theorem ml_L_232 : Cond.methodLink RL 232 yX11_leads ∈ me_gw := (me_gm 581 (by decide +kernel) (by decide +kernel))
theorem mv_Y_leads : me_MV yX11_leads cX11_leads 1 (some .int) 0 := ⟨(me_gm 584 (by decide +kernel) (by decide +kernel)), (me_gm 76 (by decide +kernel) (by decide +kernel)), ⟨by decide +kernel, by decide +kernel⟩, by decide +kernel, (me_gm 582 (by decide +kernel) (by decide +kernel)), (me_gm 583 (by decide +kernel) (by decide +kernel))⟩
theorem ml_L_235 : Cond.methodLink RL 235 yX12_leads ∈ me_gw := (me_gm 1957 (by decide +kernel) (by decide +kernel))
theorem mv_M_leads : me_MV yX12_leads cX12_leads 5 (some .int) 0 := ⟨(me_gm 1960 (by decide +kernel) (by decide +kernel)), (me_gm 88 (by decide +kernel) (by decide +kernel)), ⟨by decide +kernel, by decide +kernel⟩, by decide +kernel, (me_gm 1958 (by decide +kernel) (by decide +kernel)), (me_gm 1959 (by decide +kernel) (by decide +kernel))⟩
theorem ml_L_236 : Cond.methodLink RL 236 yX11_hasRing ∈ me_gw := (me_gm 643 (by decide +kernel) (by decide +kernel))
theorem mv_Y_hasRing : me_MV yX11_hasRing cX11_hasRing 1 (some .boolean) 0 := ⟨(me_gm 646 (by decide +kernel) (by decide +kernel)), (me_gm 76 (by decide +kernel) (by decide +kernel)), ⟨by decide +kernel, by decide +kernel⟩, by decide +kernel, (me_gm 644 (by decide +kernel) (by decide +kernel)), (me_gm 645 (by decide +kernel) (by decide +kernel))⟩
theorem ml_L_240 : Cond.methodLink RL 240 yX12_hasRing ∈ me_gw := (me_gm 1973 (by decide +kernel) (by decide +kernel))
theorem mv_M_hasRing : me_MV yX12_hasRing cX12_hasRing 8 (some .boolean) 0 := ⟨(me_gm 1976 (by decide +kernel) (by decide +kernel)), (me_gm 88 (by decide +kernel) (by decide +kernel)), ⟨by decide +kernel, by decide +kernel⟩, by decide +kernel, (me_gm 1974 (by decide +kernel) (by decide +kernel)), (me_gm 1975 (by decide +kernel) (by decide +kernel))⟩
theorem ml_L_241 : Cond.methodLink RL 241 yL_direction ∈ me_gw := (me_gm 1332 (by decide +kernel) (by decide +kernel))
theorem mh_L_direction : Cond.codeWith yL_direction cL_direction 5 (some .int) [(0, 10, 13, 13)] ∈ me_gw := (me_gm 1334 (by decide +kernel) (by decide +kernel))
theorem si_L_direction : Cond.static yL_direction ∈ me_gw := (me_gm 1333 (by decide +kernel) (by decide +kernel))
theorem ml_L_243 : Cond.methodLink RL 243 yX12_direction ∈ me_gw := (me_gm 1977 (by decide +kernel) (by decide +kernel))
theorem mv_M_direction : me_MV yX12_direction cX12_direction 3 (some .char) 2 := ⟨(me_gm 1980 (by decide +kernel) (by decide +kernel)), (me_gm 88 (by decide +kernel) (by decide +kernel)), ⟨by decide +kernel, by decide +kernel⟩, by decide +kernel, (me_gm 1978 (by decide +kernel) (by decide +kernel)), (me_gm 1979 (by decide +kernel) (by decide +kernel))⟩
theorem ml_L_244 : Cond.methodLink RL 244 yL_program ∈ me_gw := (me_gm 1360 (by decide +kernel) (by decide +kernel))
theorem mh_L_program : Cond.codeWith yL_program cL_program 6 (some .int) [(0, 12, 15, 13), (0, 12, 19, 15), (0, 12, 23, 17)] ∈ me_gw := (me_gm 1362 (by decide +kernel) (by decide +kernel))
theorem si_L_program : Cond.static yL_program ∈ me_gw := (me_gm 1361 (by decide +kernel) (by decide +kernel))
theorem ml_L_246 : Cond.methodLink RL 246 yX12_program ∈ me_gw := (me_gm 1878 (by decide +kernel) (by decide +kernel))
theorem mv_M_program : me_MV yX12_program cX12_program 6 (some .int) 3 := ⟨(me_gm 1881 (by decide +kernel) (by decide +kernel)), (me_gm 88 (by decide +kernel) (by decide +kernel)), ⟨by decide +kernel, by decide +kernel⟩, by decide +kernel, (me_gm 1879 (by decide +kernel) (by decide +kernel)), (me_gm 1880 (by decide +kernel) (by decide +kernel))⟩
theorem ml_L_247 : Cond.methodLink RL 247 yL_clear ∈ me_gw := (me_gm 1378 (by decide +kernel) (by decide +kernel))
theorem mh_L_clear : Cond.codeWith yL_clear cL_clear 4 (some .int) [(0, 9, 12, 13), (0, 9, 15, 17)] ∈ me_gw := (me_gm 1380 (by decide +kernel) (by decide +kernel))
theorem si_L_clear : Cond.static yL_clear ∈ me_gw := (me_gm 1379 (by decide +kernel) (by decide +kernel))
theorem ml_L_249 : Cond.methodLink RL 249 yX12_clear ∈ me_gw := (me_gm 1888 (by decide +kernel) (by decide +kernel))
theorem mv_M_clear : me_MV yX12_clear cX12_clear 3 (some .int) 1 := ⟨(me_gm 1891 (by decide +kernel) (by decide +kernel)), (me_gm 88 (by decide +kernel) (by decide +kernel)), ⟨by decide +kernel, by decide +kernel⟩, by decide +kernel, (me_gm 1889 (by decide +kernel) (by decide +kernel)), (me_gm 1890 (by decide +kernel) (by decide +kernel))⟩
theorem ml_L_250 : Cond.methodLink RL 250 yL_start ∈ me_gw := (me_gm 1390 (by decide +kernel) (by decide +kernel))
theorem mh_L_start : Cond.codeWith yL_start cL_start 4 (some .int) [(0, 9, 12, 13), (0, 9, 15, 84), (0, 9, 18, 17)] ∈ me_gw := (me_gm 1392 (by decide +kernel) (by decide +kernel))
theorem si_L_start : Cond.static yL_start ∈ me_gw := (me_gm 1391 (by decide +kernel) (by decide +kernel))
theorem ml_L_252 : Cond.methodLink RL 252 yX12_start ∈ me_gw := (me_gm 1892 (by decide +kernel) (by decide +kernel))
theorem mv_M_start : me_MV yX12_start cX12_start 4 (some .int) 1 := ⟨(me_gm 1895 (by decide +kernel) (by decide +kernel)), (me_gm 88 (by decide +kernel) (by decide +kernel)), ⟨by decide +kernel, by decide +kernel⟩, by decide +kernel, (me_gm 1893 (by decide +kernel) (by decide +kernel)), (me_gm 1894 (by decide +kernel) (by decide +kernel))⟩
theorem ml_L_253 : Cond.methodLink RL 253 yL_core ∈ me_gw := (me_gm 1407 (by decide +kernel) (by decide +kernel))
theorem mh_L_core : Cond.codeWith yL_core cL_core 4 (some .int) [(0, 9, 12, 13)] ∈ me_gw := (me_gm 1409 (by decide +kernel) (by decide +kernel))
theorem si_L_core : Cond.static yL_core ∈ me_gw := (me_gm 1408 (by decide +kernel) (by decide +kernel))
theorem ml_L_255 : Cond.methodLink RL 255 yX12_core ∈ me_gw := (me_gm 1896 (by decide +kernel) (by decide +kernel))
theorem mv_M_core : me_MV yX12_core cX12_core 2 (some .char) 1 := ⟨(me_gm 1899 (by decide +kernel) (by decide +kernel)), (me_gm 88 (by decide +kernel) (by decide +kernel)), ⟨by decide +kernel, by decide +kernel⟩, by decide +kernel, (me_gm 1897 (by decide +kernel) (by decide +kernel)), (me_gm 1898 (by decide +kernel) (by decide +kernel))⟩
theorem ml_L_256 : Cond.methodLink RL 256 yL_fault ∈ me_gw := (me_gm 1414 (by decide +kernel) (by decide +kernel))
theorem mh_L_fault : Cond.codeWith yL_fault cL_fault 4 (some .int) [(0, 9, 12, 13), (0, 9, 15, 31)] ∈ me_gw := (me_gm 1416 (by decide +kernel) (by decide +kernel))
theorem si_L_fault : Cond.static yL_fault ∈ me_gw := (me_gm 1415 (by decide +kernel) (by decide +kernel))
theorem ml_L_258 : Cond.methodLink RL 258 yX12_fault ∈ me_gw := (me_gm 1900 (by decide +kernel) (by decide +kernel))
theorem mv_M_fault : me_MV yX12_fault cX12_fault 2 (some .char) 1 := ⟨(me_gm 1903 (by decide +kernel) (by decide +kernel)), (me_gm 88 (by decide +kernel) (by decide +kernel)), ⟨by decide +kernel, by decide +kernel⟩, by decide +kernel, (me_gm 1901 (by decide +kernel) (by decide +kernel)), (me_gm 1902 (by decide +kernel) (by decide +kernel))⟩
theorem ml_L_259 : Cond.methodLink RL 259 yL_memory ∈ me_gw := (me_gm 1422 (by decide +kernel) (by decide +kernel))
theorem mh_L_memory : Cond.codeWith yL_memory cL_memory 5 (some .int) [(0, 10, 13, 13), (0, 10, 17, 15)] ∈ me_gw := (me_gm 1424 (by decide +kernel) (by decide +kernel))
theorem si_L_memory : Cond.static yL_memory ∈ me_gw := (me_gm 1423 (by decide +kernel) (by decide +kernel))
theorem ml_L_261 : Cond.methodLink RL 261 yX12_memory ∈ me_gw := (me_gm 1904 (by decide +kernel) (by decide +kernel))
theorem mv_M_memory : me_MV yX12_memory cX12_memory 3 (some .int) 2 := ⟨(me_gm 1907 (by decide +kernel) (by decide +kernel)), (me_gm 88 (by decide +kernel) (by decide +kernel)), ⟨by decide +kernel, by decide +kernel⟩, by decide +kernel, (me_gm 1905 (by decide +kernel) (by decide +kernel)), (me_gm 1906 (by decide +kernel) (by decide +kernel))⟩
theorem ml_L_262 : Cond.methodLink RL 262 yL_set ∈ me_gw := (me_gm 1429 (by decide +kernel) (by decide +kernel))
theorem mh_L_set : Cond.codeWith yL_set cL_set 6 (some .int) [(0, 12, 15, 13), (0, 12, 19, 15)] ∈ me_gw := (me_gm 1431 (by decide +kernel) (by decide +kernel))
theorem si_L_set : Cond.static yL_set ∈ me_gw := (me_gm 1430 (by decide +kernel) (by decide +kernel))
theorem ml_L_264 : Cond.methodLink RL 264 yX12_set ∈ me_gw := (me_gm 1912 (by decide +kernel) (by decide +kernel))
theorem mv_M_set : me_MV yX12_set cX12_set 5 (some .int) 3 := ⟨(me_gm 1915 (by decide +kernel) (by decide +kernel)), (me_gm 88 (by decide +kernel) (by decide +kernel)), ⟨by decide +kernel, by decide +kernel⟩, by decide +kernel, (me_gm 1913 (by decide +kernel) (by decide +kernel)), (me_gm 1914 (by decide +kernel) (by decide +kernel))⟩
theorem dL_law_1659 : decode cL_law 1659 = .ok (.aload_n 1, 1) := by decide +kernel
theorem dL_law_1660 : decode cL_law 1660 = .ok (.aload_n 0, 1) := by decide +kernel
theorem dL_law_1661 : decode cL_law 1661 = .ok (.iload 5, 2) := by decide +kernel
theorem dL_law_1663 : decode cL_law 1663 = .ok (.iconst 1, 1) := by decide +kernel
theorem dL_law_1664 : decode cL_law 1664 = .ok (.iadd, 1) := by decide +kernel
theorem dL_law_1665 : decode cL_law 1665 = .ok (.iaload, 1) := by decide +kernel
theorem dL_law_1666 : decode cL_law 1666 = .ok (.aload_n 3, 1) := by decide +kernel
theorem dL_law_1667 : decode cL_law 1667 = .ok (.invokestatic 229, 3) := by decide +kernel
theorem dL_law_1670 : decode cL_law 1670 = .ok (.istore 6, 2) := by decide +kernel
theorem dL_law_1672 : decode cL_law 1672 = .ok (.aload_n 2, 1) := by decide +kernel
theorem dL_law_1673 : decode cL_law 1673 = .ok (.aload_n 0, 1) := by decide +kernel
theorem dL_law_1674 : decode cL_law 1674 = .ok (.iload 5, 2) := by decide +kernel
theorem dL_law_1676 : decode cL_law 1676 = .ok (.iconst 1, 1) := by decide +kernel
theorem dL_law_1677 : decode cL_law 1677 = .ok (.iadd, 1) := by decide +kernel
theorem dL_law_1678 : decode cL_law 1678 = .ok (.iaload, 1) := by decide +kernel
theorem dL_law_1679 : decode cL_law 1679 = .ok (.invokevirtual 231, 3) := by decide +kernel
theorem dL_law_1682 : decode cL_law 1682 = .ok (.istore 7, 2) := by decide +kernel
theorem dL_law_1684 : decode cL_law 1684 = .ok (.aload_n 2, 1) := by decide +kernel
theorem dL_law_1685 : decode cL_law 1685 = .ok (.invokevirtual 154, 3) := by decide +kernel
theorem dL_law_1688 : decode cL_law 1688 = .ok (.iload 6, 2) := by decide +kernel
theorem dL_law_1690 : decode cL_law 1690 = .ok (.if_icmp .eq 5, 3) := by decide +kernel
theorem dL_law_1693 : decode cL_law 1693 = .ok (.iconst 0, 1) := by decide +kernel
theorem dL_law_1695 : decode cL_law 1695 = .ok (.iload 6, 2) := by decide +kernel
theorem dL_law_1697 : decode cL_law 1697 = .ok (.ifCond .ne 22, 3) := by decide +kernel
theorem dL_law_1700 : decode cL_law 1700 = .ok (.aload_n 3, 1) := by decide +kernel
theorem dL_law_1701 : decode cL_law 1701 = .ok (.iconst 0, 1) := by decide +kernel
theorem dL_law_1702 : decode cL_law 1702 = .ok (.laload, 1) := by decide +kernel
theorem dL_law_1703 : decode cL_law 1703 = .ok (.iload 7, 2) := by decide +kernel
theorem dL_law_1705 : decode cL_law 1705 = .ok (.ifCond .eq 7, 3) := by decide +kernel
theorem dL_law_1708 : decode cL_law 1708 = .ok (.lconst 1, 1) := by decide +kernel
theorem dL_law_1709 : decode cL_law 1709 = .ok (.goto 4, 3) := by decide +kernel
theorem dL_law_1712 : decode cL_law 1712 = .ok (.lconst 0, 1) := by decide +kernel
theorem dL_law_1713 : decode cL_law 1713 = .ok (.lcmp, 1) := by decide +kernel
theorem dL_law_1714 : decode cL_law 1714 = .ok (.ifCond .eq 5, 3) := by decide +kernel
theorem dL_law_1717 : decode cL_law 1717 = .ok (.iconst 0, 1) := by decide +kernel
theorem dL_law_1719 : decode cL_law 1719 = .ok (.goto 1070, 3) := by decide +kernel
theorem dL_law_1722 : decode cL_law 1722 = .ok (.aload_n 1, 1) := by decide +kernel
theorem dL_law_1723 : decode cL_law 1723 = .ok (.invokevirtual 232, 3) := by decide +kernel
theorem dL_law_1726 : decode cL_law 1726 = .ok (.aload_n 2, 1) := by decide +kernel
theorem dL_law_1727 : decode cL_law 1727 = .ok (.invokevirtual 235, 3) := by decide +kernel
theorem dL_law_1730 : decode cL_law 1730 = .ok (.if_icmp .eq 1059, 3) := by decide +kernel
theorem dL_law_1733 : decode cL_law 1733 = .ok (.iconst 0, 1) := by decide +kernel
theorem dL_law_1735 : decode cL_law 1735 = .ok (.aload_n 1, 1) := by decide +kernel
theorem dL_law_1736 : decode cL_law 1736 = .ok (.invokevirtual 236, 3) := by decide +kernel
theorem dL_law_1739 : decode cL_law 1739 = .ok (.aload_n 2, 1) := by decide +kernel
theorem dL_law_1740 : decode cL_law 1740 = .ok (.invokevirtual 240, 3) := by decide +kernel
theorem dL_law_1743 : decode cL_law 1743 = .ok (.if_icmp .eq 1046, 3) := by decide +kernel
theorem dL_law_1746 : decode cL_law 1746 = .ok (.iconst 0, 1) := by decide +kernel
theorem dL_law_1748 : decode cL_law 1748 = .ok (.aload_n 1, 1) := by decide +kernel
theorem dL_law_1749 : decode cL_law 1749 = .ok (.aload_n 0, 1) := by decide +kernel
theorem dL_law_1750 : decode cL_law 1750 = .ok (.iload 5, 2) := by decide +kernel
theorem dL_law_1752 : decode cL_law 1752 = .ok (.iconst 1, 1) := by decide +kernel
theorem dL_law_1753 : decode cL_law 1753 = .ok (.iadd, 1) := by decide +kernel
theorem dL_law_1754 : decode cL_law 1754 = .ok (.iaload, 1) := by decide +kernel
theorem dL_law_1755 : decode cL_law 1755 = .ok (.aload_n 0, 1) := by decide +kernel
theorem dL_law_1756 : decode cL_law 1756 = .ok (.iload 5, 2) := by decide +kernel
theorem dL_law_1758 : decode cL_law 1758 = .ok (.iconst 2, 1) := by decide +kernel
theorem dL_law_1759 : decode cL_law 1759 = .ok (.iadd, 1) := by decide +kernel
theorem dL_law_1760 : decode cL_law 1760 = .ok (.iaload, 1) := by decide +kernel
theorem dL_law_1761 : decode cL_law 1761 = .ok (.aload_n 3, 1) := by decide +kernel
theorem dL_law_1762 : decode cL_law 1762 = .ok (.invokestatic 241, 3) := by decide +kernel
theorem dL_law_1765 : decode cL_law 1765 = .ok (.istore 6, 2) := by decide +kernel
theorem dL_law_1767 : decode cL_law 1767 = .ok (.aload_n 2, 1) := by decide +kernel
theorem dL_law_1768 : decode cL_law 1768 = .ok (.aload_n 0, 1) := by decide +kernel
theorem dL_law_1769 : decode cL_law 1769 = .ok (.iload 5, 2) := by decide +kernel
theorem dL_law_1771 : decode cL_law 1771 = .ok (.iconst 1, 1) := by decide +kernel
theorem dL_law_1772 : decode cL_law 1772 = .ok (.iadd, 1) := by decide +kernel
theorem dL_law_1773 : decode cL_law 1773 = .ok (.iaload, 1) := by decide +kernel
theorem dL_law_1774 : decode cL_law 1774 = .ok (.aload_n 0, 1) := by decide +kernel
theorem dL_law_1775 : decode cL_law 1775 = .ok (.iload 5, 2) := by decide +kernel
theorem dL_law_1777 : decode cL_law 1777 = .ok (.iconst 2, 1) := by decide +kernel
theorem dL_law_1778 : decode cL_law 1778 = .ok (.iadd, 1) := by decide +kernel
theorem dL_law_1779 : decode cL_law 1779 = .ok (.iaload, 1) := by decide +kernel
theorem dL_law_1780 : decode cL_law 1780 = .ok (.invokevirtual 243, 3) := by decide +kernel
theorem dL_law_1783 : decode cL_law 1783 = .ok (.istore 7, 2) := by decide +kernel
theorem dL_law_1785 : decode cL_law 1785 = .ok (.aload_n 2, 1) := by decide +kernel
theorem dL_law_1786 : decode cL_law 1786 = .ok (.invokevirtual 154, 3) := by decide +kernel
theorem dL_law_1789 : decode cL_law 1789 = .ok (.iload 6, 2) := by decide +kernel
theorem dL_law_1791 : decode cL_law 1791 = .ok (.if_icmp .eq 5, 3) := by decide +kernel
theorem dL_law_1794 : decode cL_law 1794 = .ok (.iconst 0, 1) := by decide +kernel
theorem dL_law_1796 : decode cL_law 1796 = .ok (.iload 6, 2) := by decide +kernel
theorem dL_law_1798 : decode cL_law 1798 = .ok (.ifCond .ne 15, 3) := by decide +kernel
theorem dL_law_1801 : decode cL_law 1801 = .ok (.aload_n 3, 1) := by decide +kernel
theorem dL_law_1802 : decode cL_law 1802 = .ok (.iconst 0, 1) := by decide +kernel
theorem dL_law_1803 : decode cL_law 1803 = .ok (.laload, 1) := by decide +kernel
theorem dL_law_1804 : decode cL_law 1804 = .ok (.iload 7, 2) := by decide +kernel
theorem dL_law_1806 : decode cL_law 1806 = .ok (.i2l, 1) := by decide +kernel
theorem dL_law_1807 : decode cL_law 1807 = .ok (.lcmp, 1) := by decide +kernel
theorem dL_law_1808 : decode cL_law 1808 = .ok (.ifCond .eq 5, 3) := by decide +kernel
theorem dL_law_1811 : decode cL_law 1811 = .ok (.iconst 0, 1) := by decide +kernel
theorem dL_law_1813 : decode cL_law 1813 = .ok (.goto 976, 3) := by decide +kernel
theorem dL_law_1816 : decode cL_law 1816 = .ok (.aload_n 1, 1) := by decide +kernel
theorem dL_law_1817 : decode cL_law 1817 = .ok (.aload_n 0, 1) := by decide +kernel
theorem dL_law_1818 : decode cL_law 1818 = .ok (.iload 5, 2) := by decide +kernel
theorem dL_law_1820 : decode cL_law 1820 = .ok (.iconst 1, 1) := by decide +kernel
theorem dL_law_1821 : decode cL_law 1821 = .ok (.iadd, 1) := by decide +kernel
theorem dL_law_1822 : decode cL_law 1822 = .ok (.iaload, 1) := by decide +kernel
theorem dL_law_1823 : decode cL_law 1823 = .ok (.aload_n 0, 1) := by decide +kernel
theorem dL_law_1824 : decode cL_law 1824 = .ok (.iload 5, 2) := by decide +kernel
theorem dL_law_1826 : decode cL_law 1826 = .ok (.iconst 2, 1) := by decide +kernel
theorem dL_law_1827 : decode cL_law 1827 = .ok (.iadd, 1) := by decide +kernel
theorem dL_law_1828 : decode cL_law 1828 = .ok (.iaload, 1) := by decide +kernel
theorem dL_law_1829 : decode cL_law 1829 = .ok (.i2c, 1) := by decide +kernel
theorem dL_law_1830 : decode cL_law 1830 = .ok (.aload_n 0, 1) := by decide +kernel
theorem dL_law_1831 : decode cL_law 1831 = .ok (.iload 5, 2) := by decide +kernel
theorem dL_law_1833 : decode cL_law 1833 = .ok (.iconst 3, 1) := by decide +kernel
theorem dL_law_1834 : decode cL_law 1834 = .ok (.iadd, 1) := by decide +kernel
theorem dL_law_1835 : decode cL_law 1835 = .ok (.iaload, 1) := by decide +kernel
theorem dL_law_1836 : decode cL_law 1836 = .ok (.aload_n 3, 1) := by decide +kernel
theorem dL_law_1837 : decode cL_law 1837 = .ok (.invokestatic 244, 3) := by decide +kernel
theorem dL_law_1840 : decode cL_law 1840 = .ok (.istore 6, 2) := by decide +kernel
theorem dL_law_1842 : decode cL_law 1842 = .ok (.aload_n 2, 1) := by decide +kernel
theorem dL_law_1843 : decode cL_law 1843 = .ok (.aload_n 0, 1) := by decide +kernel
theorem dL_law_1844 : decode cL_law 1844 = .ok (.iload 5, 2) := by decide +kernel
theorem dL_law_1846 : decode cL_law 1846 = .ok (.iconst 1, 1) := by decide +kernel
theorem dL_law_1847 : decode cL_law 1847 = .ok (.iadd, 1) := by decide +kernel
theorem dL_law_1848 : decode cL_law 1848 = .ok (.iaload, 1) := by decide +kernel
theorem dL_law_1849 : decode cL_law 1849 = .ok (.aload_n 0, 1) := by decide +kernel
theorem dL_law_1850 : decode cL_law 1850 = .ok (.iload 5, 2) := by decide +kernel
theorem dL_law_1852 : decode cL_law 1852 = .ok (.iconst 2, 1) := by decide +kernel
theorem dL_law_1853 : decode cL_law 1853 = .ok (.iadd, 1) := by decide +kernel
theorem dL_law_1854 : decode cL_law 1854 = .ok (.iaload, 1) := by decide +kernel
theorem dL_law_1855 : decode cL_law 1855 = .ok (.i2c, 1) := by decide +kernel
theorem dL_law_1856 : decode cL_law 1856 = .ok (.aload_n 0, 1) := by decide +kernel
theorem dL_law_1857 : decode cL_law 1857 = .ok (.iload 5, 2) := by decide +kernel
theorem dL_law_1859 : decode cL_law 1859 = .ok (.iconst 3, 1) := by decide +kernel
theorem dL_law_1860 : decode cL_law 1860 = .ok (.iadd, 1) := by decide +kernel
theorem dL_law_1861 : decode cL_law 1861 = .ok (.iaload, 1) := by decide +kernel
theorem dL_law_1862 : decode cL_law 1862 = .ok (.invokevirtual 246, 3) := by decide +kernel
theorem dL_law_1865 : decode cL_law 1865 = .ok (.istore 7, 2) := by decide +kernel
theorem dL_law_1867 : decode cL_law 1867 = .ok (.aload_n 2, 1) := by decide +kernel
theorem dL_law_1868 : decode cL_law 1868 = .ok (.invokevirtual 154, 3) := by decide +kernel
theorem dL_law_1871 : decode cL_law 1871 = .ok (.iload 6, 2) := by decide +kernel
theorem dL_law_1873 : decode cL_law 1873 = .ok (.if_icmp .eq 5, 3) := by decide +kernel
theorem dL_law_1876 : decode cL_law 1876 = .ok (.iconst 0, 1) := by decide +kernel
theorem dL_law_1878 : decode cL_law 1878 = .ok (.iload 6, 2) := by decide +kernel
theorem dL_law_1880 : decode cL_law 1880 = .ok (.ifCond .ne 15, 3) := by decide +kernel
theorem dL_law_1883 : decode cL_law 1883 = .ok (.aload_n 3, 1) := by decide +kernel
theorem dL_law_1884 : decode cL_law 1884 = .ok (.iconst 0, 1) := by decide +kernel
theorem dL_law_1885 : decode cL_law 1885 = .ok (.laload, 1) := by decide +kernel
theorem dL_law_1886 : decode cL_law 1886 = .ok (.iload 7, 2) := by decide +kernel
theorem dL_law_1888 : decode cL_law 1888 = .ok (.i2l, 1) := by decide +kernel
theorem dL_law_1889 : decode cL_law 1889 = .ok (.lcmp, 1) := by decide +kernel
theorem dL_law_1890 : decode cL_law 1890 = .ok (.ifCond .eq 5, 3) := by decide +kernel
theorem dL_law_1893 : decode cL_law 1893 = .ok (.iconst 0, 1) := by decide +kernel
theorem dL_law_1895 : decode cL_law 1895 = .ok (.goto 894, 3) := by decide +kernel
theorem dL_law_1898 : decode cL_law 1898 = .ok (.aload_n 1, 1) := by decide +kernel
theorem dL_law_1899 : decode cL_law 1899 = .ok (.aload_n 0, 1) := by decide +kernel
theorem dL_law_1900 : decode cL_law 1900 = .ok (.iload 5, 2) := by decide +kernel
theorem dL_law_1902 : decode cL_law 1902 = .ok (.iconst 1, 1) := by decide +kernel
theorem dL_law_1903 : decode cL_law 1903 = .ok (.iadd, 1) := by decide +kernel
theorem dL_law_1904 : decode cL_law 1904 = .ok (.iaload, 1) := by decide +kernel
theorem dL_law_1905 : decode cL_law 1905 = .ok (.aload_n 3, 1) := by decide +kernel
theorem dL_law_1906 : decode cL_law 1906 = .ok (.invokestatic 247, 3) := by decide +kernel
theorem dL_law_1909 : decode cL_law 1909 = .ok (.istore 6, 2) := by decide +kernel
theorem dL_law_1911 : decode cL_law 1911 = .ok (.aload_n 2, 1) := by decide +kernel
theorem dL_law_1912 : decode cL_law 1912 = .ok (.aload_n 0, 1) := by decide +kernel
theorem dL_law_1913 : decode cL_law 1913 = .ok (.iload 5, 2) := by decide +kernel
theorem dL_law_1915 : decode cL_law 1915 = .ok (.iconst 1, 1) := by decide +kernel
theorem dL_law_1916 : decode cL_law 1916 = .ok (.iadd, 1) := by decide +kernel
theorem dL_law_1917 : decode cL_law 1917 = .ok (.iaload, 1) := by decide +kernel
theorem dL_law_1918 : decode cL_law 1918 = .ok (.invokevirtual 249, 3) := by decide +kernel
theorem dL_law_1921 : decode cL_law 1921 = .ok (.istore 7, 2) := by decide +kernel
theorem dL_law_1923 : decode cL_law 1923 = .ok (.aload_n 2, 1) := by decide +kernel
theorem dL_law_1924 : decode cL_law 1924 = .ok (.invokevirtual 154, 3) := by decide +kernel
theorem dL_law_1927 : decode cL_law 1927 = .ok (.iload 6, 2) := by decide +kernel
theorem dL_law_1929 : decode cL_law 1929 = .ok (.if_icmp .eq 5, 3) := by decide +kernel
theorem dL_law_1932 : decode cL_law 1932 = .ok (.iconst 0, 1) := by decide +kernel
theorem dL_law_1934 : decode cL_law 1934 = .ok (.iload 6, 2) := by decide +kernel
theorem dL_law_1936 : decode cL_law 1936 = .ok (.ifCond .ne 15, 3) := by decide +kernel
theorem dL_law_1939 : decode cL_law 1939 = .ok (.aload_n 3, 1) := by decide +kernel
theorem dL_law_1940 : decode cL_law 1940 = .ok (.iconst 0, 1) := by decide +kernel
theorem dL_law_1941 : decode cL_law 1941 = .ok (.laload, 1) := by decide +kernel
theorem dL_law_1942 : decode cL_law 1942 = .ok (.iload 7, 2) := by decide +kernel
theorem dL_law_1944 : decode cL_law 1944 = .ok (.i2l, 1) := by decide +kernel
theorem dL_law_1945 : decode cL_law 1945 = .ok (.lcmp, 1) := by decide +kernel
theorem dL_law_1946 : decode cL_law 1946 = .ok (.ifCond .eq 5, 3) := by decide +kernel
theorem dL_law_1949 : decode cL_law 1949 = .ok (.iconst 0, 1) := by decide +kernel
theorem dL_law_1951 : decode cL_law 1951 = .ok (.goto 838, 3) := by decide +kernel
theorem dL_law_1954 : decode cL_law 1954 = .ok (.aload_n 1, 1) := by decide +kernel
theorem dL_law_1955 : decode cL_law 1955 = .ok (.aload_n 0, 1) := by decide +kernel
theorem dL_law_1956 : decode cL_law 1956 = .ok (.iload 5, 2) := by decide +kernel
theorem dL_law_1958 : decode cL_law 1958 = .ok (.iconst 1, 1) := by decide +kernel
theorem dL_law_1959 : decode cL_law 1959 = .ok (.iadd, 1) := by decide +kernel
theorem dL_law_1960 : decode cL_law 1960 = .ok (.iaload, 1) := by decide +kernel
theorem dL_law_1961 : decode cL_law 1961 = .ok (.aload_n 3, 1) := by decide +kernel
theorem dL_law_1962 : decode cL_law 1962 = .ok (.invokestatic 250, 3) := by decide +kernel
theorem dL_law_1965 : decode cL_law 1965 = .ok (.istore 6, 2) := by decide +kernel
theorem dL_law_1967 : decode cL_law 1967 = .ok (.aload_n 2, 1) := by decide +kernel
theorem dL_law_1968 : decode cL_law 1968 = .ok (.aload_n 0, 1) := by decide +kernel
theorem dL_law_1969 : decode cL_law 1969 = .ok (.iload 5, 2) := by decide +kernel
theorem dL_law_1971 : decode cL_law 1971 = .ok (.iconst 1, 1) := by decide +kernel
theorem dL_law_1972 : decode cL_law 1972 = .ok (.iadd, 1) := by decide +kernel
theorem dL_law_1973 : decode cL_law 1973 = .ok (.iaload, 1) := by decide +kernel
theorem dL_law_1974 : decode cL_law 1974 = .ok (.invokevirtual 252, 3) := by decide +kernel
theorem dL_law_1977 : decode cL_law 1977 = .ok (.istore 7, 2) := by decide +kernel
theorem dL_law_1979 : decode cL_law 1979 = .ok (.aload_n 2, 1) := by decide +kernel
theorem dL_law_1980 : decode cL_law 1980 = .ok (.invokevirtual 154, 3) := by decide +kernel
theorem dL_law_1983 : decode cL_law 1983 = .ok (.iload 6, 2) := by decide +kernel
theorem dL_law_1985 : decode cL_law 1985 = .ok (.if_icmp .eq 5, 3) := by decide +kernel
theorem dL_law_1988 : decode cL_law 1988 = .ok (.iconst 0, 1) := by decide +kernel
theorem dL_law_1990 : decode cL_law 1990 = .ok (.iload 6, 2) := by decide +kernel
theorem dL_law_1992 : decode cL_law 1992 = .ok (.ifCond .ne 15, 3) := by decide +kernel
theorem dL_law_1995 : decode cL_law 1995 = .ok (.aload_n 3, 1) := by decide +kernel
theorem dL_law_1996 : decode cL_law 1996 = .ok (.iconst 0, 1) := by decide +kernel
theorem dL_law_1997 : decode cL_law 1997 = .ok (.laload, 1) := by decide +kernel
theorem dL_law_1998 : decode cL_law 1998 = .ok (.iload 7, 2) := by decide +kernel
theorem dL_law_2000 : decode cL_law 2000 = .ok (.i2l, 1) := by decide +kernel
theorem dL_law_2001 : decode cL_law 2001 = .ok (.lcmp, 1) := by decide +kernel
theorem dL_law_2002 : decode cL_law 2002 = .ok (.ifCond .eq 5, 3) := by decide +kernel
theorem dL_law_2005 : decode cL_law 2005 = .ok (.iconst 0, 1) := by decide +kernel
theorem dL_law_2007 : decode cL_law 2007 = .ok (.goto 782, 3) := by decide +kernel
theorem dL_law_2010 : decode cL_law 2010 = .ok (.aload_n 1, 1) := by decide +kernel
theorem dL_law_2011 : decode cL_law 2011 = .ok (.aload_n 0, 1) := by decide +kernel
theorem dL_law_2012 : decode cL_law 2012 = .ok (.iload 5, 2) := by decide +kernel
theorem dL_law_2014 : decode cL_law 2014 = .ok (.iconst 1, 1) := by decide +kernel
theorem dL_law_2015 : decode cL_law 2015 = .ok (.iadd, 1) := by decide +kernel
theorem dL_law_2016 : decode cL_law 2016 = .ok (.iaload, 1) := by decide +kernel
theorem dL_law_2017 : decode cL_law 2017 = .ok (.aload_n 3, 1) := by decide +kernel
theorem dL_law_2018 : decode cL_law 2018 = .ok (.invokestatic 253, 3) := by decide +kernel
theorem dL_law_2021 : decode cL_law 2021 = .ok (.istore 6, 2) := by decide +kernel
theorem dL_law_2023 : decode cL_law 2023 = .ok (.aload_n 2, 1) := by decide +kernel
theorem dL_law_2024 : decode cL_law 2024 = .ok (.aload_n 0, 1) := by decide +kernel
theorem dL_law_2025 : decode cL_law 2025 = .ok (.iload 5, 2) := by decide +kernel
theorem dL_law_2027 : decode cL_law 2027 = .ok (.iconst 1, 1) := by decide +kernel
theorem dL_law_2028 : decode cL_law 2028 = .ok (.iadd, 1) := by decide +kernel
theorem dL_law_2029 : decode cL_law 2029 = .ok (.iaload, 1) := by decide +kernel
theorem dL_law_2030 : decode cL_law 2030 = .ok (.invokevirtual 255, 3) := by decide +kernel
theorem dL_law_2033 : decode cL_law 2033 = .ok (.istore 7, 2) := by decide +kernel
theorem dL_law_2035 : decode cL_law 2035 = .ok (.aload_n 2, 1) := by decide +kernel
theorem dL_law_2036 : decode cL_law 2036 = .ok (.invokevirtual 154, 3) := by decide +kernel
theorem dL_law_2039 : decode cL_law 2039 = .ok (.iload 6, 2) := by decide +kernel
theorem dL_law_2041 : decode cL_law 2041 = .ok (.if_icmp .eq 5, 3) := by decide +kernel
theorem dL_law_2044 : decode cL_law 2044 = .ok (.iconst 0, 1) := by decide +kernel
theorem dL_law_2046 : decode cL_law 2046 = .ok (.iload 6, 2) := by decide +kernel
theorem dL_law_2048 : decode cL_law 2048 = .ok (.ifCond .ne 15, 3) := by decide +kernel
theorem dL_law_2051 : decode cL_law 2051 = .ok (.aload_n 3, 1) := by decide +kernel
theorem dL_law_2052 : decode cL_law 2052 = .ok (.iconst 0, 1) := by decide +kernel
theorem dL_law_2053 : decode cL_law 2053 = .ok (.laload, 1) := by decide +kernel
theorem dL_law_2054 : decode cL_law 2054 = .ok (.iload 7, 2) := by decide +kernel
theorem dL_law_2056 : decode cL_law 2056 = .ok (.i2l, 1) := by decide +kernel
theorem dL_law_2057 : decode cL_law 2057 = .ok (.lcmp, 1) := by decide +kernel
theorem dL_law_2058 : decode cL_law 2058 = .ok (.ifCond .eq 5, 3) := by decide +kernel
theorem dL_law_2061 : decode cL_law 2061 = .ok (.iconst 0, 1) := by decide +kernel
theorem dL_law_2063 : decode cL_law 2063 = .ok (.goto 726, 3) := by decide +kernel
theorem dL_law_2066 : decode cL_law 2066 = .ok (.aload_n 1, 1) := by decide +kernel
theorem dL_law_2067 : decode cL_law 2067 = .ok (.aload_n 0, 1) := by decide +kernel
theorem dL_law_2068 : decode cL_law 2068 = .ok (.iload 5, 2) := by decide +kernel
theorem dL_law_2070 : decode cL_law 2070 = .ok (.iconst 1, 1) := by decide +kernel
theorem dL_law_2071 : decode cL_law 2071 = .ok (.iadd, 1) := by decide +kernel
theorem dL_law_2072 : decode cL_law 2072 = .ok (.iaload, 1) := by decide +kernel
theorem dL_law_2073 : decode cL_law 2073 = .ok (.aload_n 3, 1) := by decide +kernel
theorem dL_law_2074 : decode cL_law 2074 = .ok (.invokestatic 256, 3) := by decide +kernel
theorem dL_law_2077 : decode cL_law 2077 = .ok (.istore 6, 2) := by decide +kernel
theorem dL_law_2079 : decode cL_law 2079 = .ok (.aload_n 2, 1) := by decide +kernel
theorem dL_law_2080 : decode cL_law 2080 = .ok (.aload_n 0, 1) := by decide +kernel
theorem dL_law_2081 : decode cL_law 2081 = .ok (.iload 5, 2) := by decide +kernel
theorem dL_law_2083 : decode cL_law 2083 = .ok (.iconst 1, 1) := by decide +kernel
theorem dL_law_2084 : decode cL_law 2084 = .ok (.iadd, 1) := by decide +kernel
theorem dL_law_2085 : decode cL_law 2085 = .ok (.iaload, 1) := by decide +kernel
theorem dL_law_2086 : decode cL_law 2086 = .ok (.invokevirtual 258, 3) := by decide +kernel
theorem dL_law_2089 : decode cL_law 2089 = .ok (.istore 7, 2) := by decide +kernel
theorem dL_law_2091 : decode cL_law 2091 = .ok (.aload_n 2, 1) := by decide +kernel
theorem dL_law_2092 : decode cL_law 2092 = .ok (.invokevirtual 154, 3) := by decide +kernel
theorem dL_law_2095 : decode cL_law 2095 = .ok (.iload 6, 2) := by decide +kernel
theorem dL_law_2097 : decode cL_law 2097 = .ok (.if_icmp .eq 5, 3) := by decide +kernel
theorem dL_law_2100 : decode cL_law 2100 = .ok (.iconst 0, 1) := by decide +kernel
theorem dL_law_2102 : decode cL_law 2102 = .ok (.iload 6, 2) := by decide +kernel
theorem dL_law_2104 : decode cL_law 2104 = .ok (.ifCond .ne 15, 3) := by decide +kernel
theorem dL_law_2107 : decode cL_law 2107 = .ok (.aload_n 3, 1) := by decide +kernel
theorem dL_law_2108 : decode cL_law 2108 = .ok (.iconst 0, 1) := by decide +kernel
theorem dL_law_2109 : decode cL_law 2109 = .ok (.laload, 1) := by decide +kernel
theorem dL_law_2110 : decode cL_law 2110 = .ok (.iload 7, 2) := by decide +kernel
theorem dL_law_2112 : decode cL_law 2112 = .ok (.i2l, 1) := by decide +kernel
theorem dL_law_2113 : decode cL_law 2113 = .ok (.lcmp, 1) := by decide +kernel
theorem dL_law_2114 : decode cL_law 2114 = .ok (.ifCond .eq 5, 3) := by decide +kernel
theorem dL_law_2117 : decode cL_law 2117 = .ok (.iconst 0, 1) := by decide +kernel
theorem dL_law_2119 : decode cL_law 2119 = .ok (.goto 670, 3) := by decide +kernel
theorem dL_law_2122 : decode cL_law 2122 = .ok (.aload_n 1, 1) := by decide +kernel
theorem dL_law_2123 : decode cL_law 2123 = .ok (.aload_n 0, 1) := by decide +kernel
theorem dL_law_2124 : decode cL_law 2124 = .ok (.iload 5, 2) := by decide +kernel
theorem dL_law_2126 : decode cL_law 2126 = .ok (.iconst 1, 1) := by decide +kernel
theorem dL_law_2127 : decode cL_law 2127 = .ok (.iadd, 1) := by decide +kernel
theorem dL_law_2128 : decode cL_law 2128 = .ok (.iaload, 1) := by decide +kernel
theorem dL_law_2129 : decode cL_law 2129 = .ok (.aload_n 0, 1) := by decide +kernel
theorem dL_law_2130 : decode cL_law 2130 = .ok (.iload 5, 2) := by decide +kernel
theorem dL_law_2132 : decode cL_law 2132 = .ok (.iconst 2, 1) := by decide +kernel
theorem dL_law_2133 : decode cL_law 2133 = .ok (.iadd, 1) := by decide +kernel
theorem dL_law_2134 : decode cL_law 2134 = .ok (.iaload, 1) := by decide +kernel
theorem dL_law_2135 : decode cL_law 2135 = .ok (.aload_n 3, 1) := by decide +kernel
theorem dL_law_2136 : decode cL_law 2136 = .ok (.invokestatic 259, 3) := by decide +kernel
theorem dL_law_2139 : decode cL_law 2139 = .ok (.istore 6, 2) := by decide +kernel
theorem dL_law_2141 : decode cL_law 2141 = .ok (.aload_n 2, 1) := by decide +kernel
theorem dL_law_2142 : decode cL_law 2142 = .ok (.aload_n 0, 1) := by decide +kernel
theorem dL_law_2143 : decode cL_law 2143 = .ok (.iload 5, 2) := by decide +kernel
theorem dL_law_2145 : decode cL_law 2145 = .ok (.iconst 1, 1) := by decide +kernel
theorem dL_law_2146 : decode cL_law 2146 = .ok (.iadd, 1) := by decide +kernel
theorem dL_law_2147 : decode cL_law 2147 = .ok (.iaload, 1) := by decide +kernel
theorem dL_law_2148 : decode cL_law 2148 = .ok (.aload_n 0, 1) := by decide +kernel
theorem dL_law_2149 : decode cL_law 2149 = .ok (.iload 5, 2) := by decide +kernel
theorem dL_law_2151 : decode cL_law 2151 = .ok (.iconst 2, 1) := by decide +kernel
theorem dL_law_2152 : decode cL_law 2152 = .ok (.iadd, 1) := by decide +kernel
theorem dL_law_2153 : decode cL_law 2153 = .ok (.iaload, 1) := by decide +kernel
theorem dL_law_2154 : decode cL_law 2154 = .ok (.invokevirtual 261, 3) := by decide +kernel
theorem dL_law_2157 : decode cL_law 2157 = .ok (.istore 7, 2) := by decide +kernel
theorem dL_law_2159 : decode cL_law 2159 = .ok (.aload_n 2, 1) := by decide +kernel
theorem dL_law_2160 : decode cL_law 2160 = .ok (.invokevirtual 154, 3) := by decide +kernel
theorem dL_law_2163 : decode cL_law 2163 = .ok (.iload 6, 2) := by decide +kernel
theorem dL_law_2165 : decode cL_law 2165 = .ok (.if_icmp .eq 5, 3) := by decide +kernel
theorem dL_law_2168 : decode cL_law 2168 = .ok (.iconst 0, 1) := by decide +kernel
theorem dL_law_2170 : decode cL_law 2170 = .ok (.iload 6, 2) := by decide +kernel
theorem dL_law_2172 : decode cL_law 2172 = .ok (.ifCond .ne 15, 3) := by decide +kernel
theorem dL_law_2175 : decode cL_law 2175 = .ok (.aload_n 3, 1) := by decide +kernel
theorem dL_law_2176 : decode cL_law 2176 = .ok (.iconst 0, 1) := by decide +kernel
theorem dL_law_2177 : decode cL_law 2177 = .ok (.laload, 1) := by decide +kernel
theorem dL_law_2178 : decode cL_law 2178 = .ok (.iload 7, 2) := by decide +kernel
theorem dL_law_2180 : decode cL_law 2180 = .ok (.i2l, 1) := by decide +kernel
theorem dL_law_2181 : decode cL_law 2181 = .ok (.lcmp, 1) := by decide +kernel
theorem dL_law_2182 : decode cL_law 2182 = .ok (.ifCond .eq 5, 3) := by decide +kernel
theorem dL_law_2185 : decode cL_law 2185 = .ok (.iconst 0, 1) := by decide +kernel
theorem dL_law_2187 : decode cL_law 2187 = .ok (.goto 602, 3) := by decide +kernel
theorem dL_law_2190 : decode cL_law 2190 = .ok (.aload_n 1, 1) := by decide +kernel
theorem dL_law_2191 : decode cL_law 2191 = .ok (.aload_n 0, 1) := by decide +kernel
theorem dL_law_2192 : decode cL_law 2192 = .ok (.iload 5, 2) := by decide +kernel
theorem dL_law_2194 : decode cL_law 2194 = .ok (.iconst 1, 1) := by decide +kernel
theorem dL_law_2195 : decode cL_law 2195 = .ok (.iadd, 1) := by decide +kernel
theorem dL_law_2196 : decode cL_law 2196 = .ok (.iaload, 1) := by decide +kernel
theorem dL_law_2197 : decode cL_law 2197 = .ok (.aload_n 0, 1) := by decide +kernel
theorem dL_law_2198 : decode cL_law 2198 = .ok (.iload 5, 2) := by decide +kernel
theorem dL_law_2200 : decode cL_law 2200 = .ok (.iconst 2, 1) := by decide +kernel
theorem dL_law_2201 : decode cL_law 2201 = .ok (.iadd, 1) := by decide +kernel
theorem dL_law_2202 : decode cL_law 2202 = .ok (.iaload, 1) := by decide +kernel
theorem dL_law_2203 : decode cL_law 2203 = .ok (.aload_n 0, 1) := by decide +kernel
theorem dL_law_2204 : decode cL_law 2204 = .ok (.iload 5, 2) := by decide +kernel
theorem dL_law_2206 : decode cL_law 2206 = .ok (.iconst 3, 1) := by decide +kernel
theorem dL_law_2207 : decode cL_law 2207 = .ok (.iadd, 1) := by decide +kernel
theorem dL_law_2208 : decode cL_law 2208 = .ok (.iaload, 1) := by decide +kernel
theorem dL_law_2209 : decode cL_law 2209 = .ok (.aload_n 3, 1) := by decide +kernel
theorem dL_law_2210 : decode cL_law 2210 = .ok (.invokestatic 262, 3) := by decide +kernel
theorem dL_law_2213 : decode cL_law 2213 = .ok (.istore 6, 2) := by decide +kernel
theorem dL_law_2215 : decode cL_law 2215 = .ok (.aload_n 2, 1) := by decide +kernel
theorem dL_law_2216 : decode cL_law 2216 = .ok (.aload_n 0, 1) := by decide +kernel
theorem dL_law_2217 : decode cL_law 2217 = .ok (.iload 5, 2) := by decide +kernel
theorem dL_law_2219 : decode cL_law 2219 = .ok (.iconst 1, 1) := by decide +kernel
theorem dL_law_2220 : decode cL_law 2220 = .ok (.iadd, 1) := by decide +kernel
theorem dL_law_2221 : decode cL_law 2221 = .ok (.iaload, 1) := by decide +kernel
theorem dL_law_2222 : decode cL_law 2222 = .ok (.aload_n 0, 1) := by decide +kernel
theorem dL_law_2223 : decode cL_law 2223 = .ok (.iload 5, 2) := by decide +kernel
theorem dL_law_2225 : decode cL_law 2225 = .ok (.iconst 2, 1) := by decide +kernel
theorem dL_law_2226 : decode cL_law 2226 = .ok (.iadd, 1) := by decide +kernel
theorem dL_law_2227 : decode cL_law 2227 = .ok (.iaload, 1) := by decide +kernel
theorem dL_law_2228 : decode cL_law 2228 = .ok (.aload_n 0, 1) := by decide +kernel
theorem dL_law_2229 : decode cL_law 2229 = .ok (.iload 5, 2) := by decide +kernel
theorem dL_law_2231 : decode cL_law 2231 = .ok (.iconst 3, 1) := by decide +kernel
theorem dL_law_2232 : decode cL_law 2232 = .ok (.iadd, 1) := by decide +kernel
theorem dL_law_2233 : decode cL_law 2233 = .ok (.iaload, 1) := by decide +kernel
theorem dL_law_2234 : decode cL_law 2234 = .ok (.invokevirtual 264, 3) := by decide +kernel
theorem dL_law_2237 : decode cL_law 2237 = .ok (.istore 7, 2) := by decide +kernel
theorem dL_law_2239 : decode cL_law 2239 = .ok (.aload_n 2, 1) := by decide +kernel
theorem dL_law_2240 : decode cL_law 2240 = .ok (.invokevirtual 154, 3) := by decide +kernel
theorem dL_law_2243 : decode cL_law 2243 = .ok (.iload 6, 2) := by decide +kernel
theorem dL_law_2245 : decode cL_law 2245 = .ok (.if_icmp .eq 5, 3) := by decide +kernel
theorem dL_law_2248 : decode cL_law 2248 = .ok (.iconst 0, 1) := by decide +kernel
theorem dL_law_2250 : decode cL_law 2250 = .ok (.iload 6, 2) := by decide +kernel
theorem dL_law_2252 : decode cL_law 2252 = .ok (.ifCond .ne 15, 3) := by decide +kernel
theorem dL_law_2255 : decode cL_law 2255 = .ok (.aload_n 3, 1) := by decide +kernel
theorem dL_law_2256 : decode cL_law 2256 = .ok (.iconst 0, 1) := by decide +kernel
theorem dL_law_2257 : decode cL_law 2257 = .ok (.laload, 1) := by decide +kernel
theorem dL_law_2258 : decode cL_law 2258 = .ok (.iload 7, 2) := by decide +kernel
theorem dL_law_2260 : decode cL_law 2260 = .ok (.i2l, 1) := by decide +kernel
theorem dL_law_2261 : decode cL_law 2261 = .ok (.lcmp, 1) := by decide +kernel
theorem dL_law_2262 : decode cL_law 2262 = .ok (.ifCond .eq 5, 3) := by decide +kernel
theorem dL_law_2265 : decode cL_law 2265 = .ok (.iconst 0, 1) := by decide +kernel
theorem dL_law_2267 : decode cL_law 2267 = .ok (.goto 522, 3) := by decide +kernel
def f_case_22 (μ : me_M) (o : Int64 × UInt64) (s1 s2 s3 s4 s5 : Int32) : Option (me_M × (Int64 × UInt64)) :=
  me_b2 (f_L_isAwake μ o s1) (fun μ2 r1 =>
  me_b2 (f_M_isAwake μ2 s1) (fun μ4 r3 =>
  me_bd (f_M_thrown μ4) (fun r5 =>
  if r5 = (r1.2) then
  (if (r1.2) = 0 then
  (if r3 = 0 then
  (if (lg_cmp (r1.1.1) (0 : Int64)) = 0 then
  (some (μ4, r1.1))
  else
  (none))
  else
  (if (lg_cmp (r1.1.1) (1 : Int64)) = 0 then
  (some (μ4, r1.1))
  else
  (none)))
  else
  (some (μ4, r1.1)))
  else
  (none))))
set_option maxHeartbeats 4000000 in
set_option maxRecDepth 100000 in
theorem z_case_22 {X : me_X} {B : me_B} {μ : me_M} {b n : Nat} {xs : Nat → Int32} {i s1 s2 s3 s4 s5 : Int32} {nc ns : Nat} {ret0 : Option FieldType} (C : me_C X B RL cL_law 9 ret0) (hX : me_SX X b n xs) (hroom : me_Rm X 12 464 601024 7293034) (hB : me_St B) (h93 : ∀ i, i < B.2.1 93 → i = 0) (h94 : ∀ i, i < B.2.1 94 → i = 0) (h95 : B.2.1 95 = 0) (hn : nc + 16 ≤ 601024 ∧ ns + 128 ≤ 7293034) (h1 : me_inb (i + 1) n = true) (e1 : xs (me_ix (i + 1)) = s1) (h2 : me_inb (i + 2) n = true) (e2 : xs (me_ix (i + 2)) = s2) (h3 : me_inb (i + 3) n = true) (e3 : xs (me_ix (i + 3)) = s3) (h4 : me_inb (i + 4) n = true) (e4 : xs (me_ix (i + 4)) = s4) (h5 : me_inb (i + 5) n = true) (e5 : xs (me_ix (i + 5)) = s5) {μ' : me_M} {o' : Int64 × UInt64} (hf : f_case_22 μ B.2.2.2 s1 s2 s3 s4 s5 = some (μ', o')) (hK : me_Z X (me_ob B o') (nc + 16) (ns + 128) μ' 2789 [(0, .inl (.ref b)), (1, me_r 0 0), (2, me_r 36 0), (3, me_r 93 0), (4, me_r 94 0), (5, me_i i)] []) : me_Z X B nc ns μ 1659 [(0, .inl (.ref b)), (1, me_r 0 0), (2, me_r 36 0), (3, me_r 93 0), (4, me_r 94 0), (5, me_i i)] [] := by
  unfold f_case_22 at hf
  refine me_aload_n C 1 (Or.inr (Or.inl ⟨_, rfl⟩)) dL_law_1659 rfl rfl ?_
  refine me_aload_n C 0 (Or.inr (Or.inr ⟨_, rfl⟩)) dL_law_1660 rfl rfl ?_
  refine me_iload C dL_law_1661 rfl ?_
  refine me_iconst C (v := 1) dL_law_1663 (by decide) ?_
  refine me_iadd C dL_law_1664 ?_
  refine me_sld C hX h1 e1 dL_law_1665 ?_
  refine me_aload_n C 3 (Or.inr (Or.inl ⟨_, rfl⟩)) dL_law_1666 rfl rfl ?_
  obtain ⟨μ2, r1, h_r1, hf⟩ := me_bs2 hf
  refine me_callSH C hroom (n := 3) (As := [me_r 0 0, me_i s1, me_r 93 0]) (st := []) (nc + 1) (ns + 6) (c_L_isAwake hB h93 h_r1) mh_L_isAwake iL ⟨by decide +kernel, by decide +kernel⟩ (by decide +kernel) si_L_isAwake ml_L_229 dL_law_1667 rfl rfl ⟨by decide, by decide⟩ ⟨by omega, by omega, by omega, by omega⟩ (Nat.le_of_ble_eq_true rfl) ?_
  have hB := hB.ob r1.1
  have C := C.ob r1.1
  refine me_istore C dL_law_1670 (by decide) (L' := [(6, me_i (r1.2)), (0, .inl (.ref b)), (1, me_r 0 0), (2, me_r 36 0), (3, me_r 93 0), (4, me_r 94 0), (5, me_i i)]) rfl ?_
  refine me_aload_n C 2 (Or.inr (Or.inl ⟨_, rfl⟩)) dL_law_1672 rfl rfl ?_
  refine me_aload_n C 0 (Or.inr (Or.inr ⟨_, rfl⟩)) dL_law_1673 rfl rfl ?_
  refine me_iload C dL_law_1674 rfl ?_
  refine me_iconst C (v := 1) dL_law_1676 (by decide) ?_
  refine me_iadd C dL_law_1677 ?_
  refine me_sld C hX h1 e1 dL_law_1678 ?_
  obtain ⟨μ4, r3, h_r3, hf⟩ := me_bs2 hf
  refine me_callVR C hroom (As := [me_i s1]) (st := []) (nc + 1) (ns + 6) (c_M_isAwake hB h_r3) mv_M_isAwake ml_L_231 rfl rfl dL_law_1679 rfl rfl ⟨by decide, by decide⟩ ⟨by omega, by omega, by omega, by omega⟩ (Nat.le_of_ble_eq_true rfl) ?_
  refine me_istore C dL_law_1682 (by decide) (L' := [(7, me_i r3), (6, me_i (r1.2)), (0, .inl (.ref b)), (1, me_r 0 0), (2, me_r 36 0), (3, me_r 93 0), (4, me_r 94 0), (5, me_i i)]) rfl ?_
  refine me_aload_n C 2 (Or.inr (Or.inl ⟨_, rfl⟩)) dL_law_1684 rfl rfl ?_
  obtain ⟨r5, h_r5, hf⟩ := me_bs hf
  refine me_callVR C hroom (As := []) (st := []) (nc + 1) (ns + 6) (c_M_thrown hB h_r5) mv_M_thrown ml_L_154 rfl rfl dL_law_1685 rfl rfl ⟨by decide, by decide⟩ ⟨by omega, by omega, by omega, by omega⟩ (Nat.le_of_ble_eq_true rfl) ?_
  refine me_iload C dL_law_1688 rfl ?_
  refine me_icmp_eq C (tgt := 1695) dL_law_1690 (by decide) (fun c6 => ?_) (fun c6 => ?_)
  · replace hf := me_ip c6 hf
    refine me_iload C dL_law_1695 rfl ?_
    refine me_if_ne C (tgt := 1719) dL_law_1697 (by decide) (fun c7 => ?_) (fun c7 => ?_)
    · replace hf := me_in c7 hf
      refine me_goto C (tgt := 2789) dL_law_1719 (by decide) ?_
      cases hf
      refine me_wid (nc + 16) (ns + 128) (by omega) (by omega) ?_
      refine me_dropI [(0, .inl (.ref b)), (1, me_r 0 0), (2, me_r 36 0), (3, me_r 93 0), (4, me_r 94 0), (5, me_i i)] [2, 3, 4, 5, 6, 7] rfl ?_
      exact hK
    · replace hf := me_ip c7 hf
      refine me_aload_n C 3 (Or.inr (Or.inl ⟨_, rfl⟩)) dL_law_1700 rfl rfl ?_
      refine me_iconst C (v := 0) dL_law_1701 (by decide) ?_
      refine me_lald C dL_law_1702 ?_
      refine me_iload C dL_law_1703 rfl ?_
      refine me_if_eq C (tgt := 1712) dL_law_1705 (by decide) (fun c8 => ?_) (fun c8 => ?_)
      · replace hf := me_ip c8 hf
        refine me_lconst C (v := 0) dL_law_1712 (by decide) ?_
        refine me_lcmp C dL_law_1713 ?_
        refine me_if_eq C (tgt := 1719) dL_law_1714 (by decide) (fun c9 => ?_) (fun c9 => ?_)
        · replace hf := me_ip c9 hf
          refine me_goto C (tgt := 2789) dL_law_1719 (by decide) ?_
          cases hf
          refine me_wid (nc + 16) (ns + 128) (by omega) (by omega) ?_
          refine me_dropI [(0, .inl (.ref b)), (1, me_r 0 0), (2, me_r 36 0), (3, me_r 93 0), (4, me_r 94 0), (5, me_i i)] [2, 3, 4, 5, 6, 7] rfl ?_
          exact hK
        · replace hf := me_in c9 hf
          refine me_iconst C (v := 0) dL_law_1717 (by decide) ?_
          cases hf
      · replace hf := me_in c8 hf
        refine me_lconst C (v := 1) dL_law_1708 (by decide) ?_
        refine me_goto C (tgt := 1713) dL_law_1709 (by decide) ?_
        refine me_lcmp C dL_law_1713 ?_
        refine me_if_eq C (tgt := 1719) dL_law_1714 (by decide) (fun c10 => ?_) (fun c10 => ?_)
        · replace hf := me_ip c10 hf
          refine me_goto C (tgt := 2789) dL_law_1719 (by decide) ?_
          cases hf
          refine me_wid (nc + 16) (ns + 128) (by omega) (by omega) ?_
          refine me_dropI [(0, .inl (.ref b)), (1, me_r 0 0), (2, me_r 36 0), (3, me_r 93 0), (4, me_r 94 0), (5, me_i i)] [2, 3, 4, 5, 6, 7] rfl ?_
          exact hK
        · replace hf := me_in c10 hf
          refine me_iconst C (v := 0) dL_law_1717 (by decide) ?_
          cases hf
  · replace hf := me_in c6 hf
    refine me_iconst C (v := 0) dL_law_1693 (by decide) ?_
    cases hf

def f_case_23 (μ : me_M) (o : Int64 × UInt64) (s1 s2 s3 s4 s5 : Int32) : Option (me_M × (Int64 × UInt64)) :=
  me_b2 (f_Y_leads μ) (fun μ2 r1 =>
  me_b2 (f_M_leads μ2) (fun μ4 r3 =>
  if r1 = r3 then
  (some (μ4, o))
  else
  (none)))
set_option maxHeartbeats 4000000 in
set_option maxRecDepth 100000 in
theorem z_case_23 {X : me_X} {B : me_B} {μ : me_M} {b n : Nat} {xs : Nat → Int32} {i s1 s2 s3 s4 s5 : Int32} {nc ns : Nat} {ret0 : Option FieldType} (C : me_C X B RL cL_law 9 ret0) (hX : me_SX X b n xs) (hroom : me_Rm X 12 464 601024 7293034) (hB : me_St B) (h93 : ∀ i, i < B.2.1 93 → i = 0) (h94 : ∀ i, i < B.2.1 94 → i = 0) (h95 : B.2.1 95 = 0) (hn : nc + 16 ≤ 601024 ∧ ns + 128 ≤ 7293034) (h1 : me_inb (i + 1) n = true) (e1 : xs (me_ix (i + 1)) = s1) (h2 : me_inb (i + 2) n = true) (e2 : xs (me_ix (i + 2)) = s2) (h3 : me_inb (i + 3) n = true) (e3 : xs (me_ix (i + 3)) = s3) (h4 : me_inb (i + 4) n = true) (e4 : xs (me_ix (i + 4)) = s4) (h5 : me_inb (i + 5) n = true) (e5 : xs (me_ix (i + 5)) = s5) {μ' : me_M} {o' : Int64 × UInt64} (hf : f_case_23 μ B.2.2.2 s1 s2 s3 s4 s5 = some (μ', o')) (hK : me_Z X (me_ob B o') (nc + 16) (ns + 128) μ' 2789 [(0, .inl (.ref b)), (1, me_r 0 0), (2, me_r 36 0), (3, me_r 93 0), (4, me_r 94 0), (5, me_i i)] []) : me_Z X B nc ns μ 1722 [(0, .inl (.ref b)), (1, me_r 0 0), (2, me_r 36 0), (3, me_r 93 0), (4, me_r 94 0), (5, me_i i)] [] := by
  unfold f_case_23 at hf
  refine me_aload_n C 1 (Or.inr (Or.inl ⟨_, rfl⟩)) dL_law_1722 rfl rfl ?_
  obtain ⟨μ2, r1, h_r1, hf⟩ := me_bs2 hf
  refine me_callVR C hroom (As := []) (st := []) nc ns (c_Y_leads hB h_r1) mv_Y_leads ml_L_232 rfl rfl dL_law_1723 rfl rfl ⟨by decide, by decide⟩ ⟨by omega, by omega, by omega, by omega⟩ (Nat.le_of_ble_eq_true rfl) ?_
  refine me_aload_n C 2 (Or.inr (Or.inl ⟨_, rfl⟩)) dL_law_1726 rfl rfl ?_
  obtain ⟨μ4, r3, h_r3, hf⟩ := me_bs2 hf
  refine me_callVR C hroom (As := []) (st := [me_i r1]) nc ns (c_M_leads hB h_r3) mv_M_leads ml_L_235 rfl rfl dL_law_1727 rfl rfl ⟨by decide, by decide⟩ ⟨by omega, by omega, by omega, by omega⟩ (Nat.le_of_ble_eq_true rfl) ?_
  refine me_icmp_eq C (tgt := 2789) dL_law_1730 (by decide) (fun c5 => ?_) (fun c5 => ?_)
  · replace hf := me_ip c5 hf
    cases hf
    refine me_wid (nc + 16) (ns + 128) (by omega) (by omega) ?_
    refine me_dropI [(0, .inl (.ref b)), (1, me_r 0 0), (2, me_r 36 0), (3, me_r 93 0), (4, me_r 94 0), (5, me_i i)] [0, 1, 2, 3, 4, 5] rfl ?_
    exact hK
  · replace hf := me_in c5 hf
    refine me_iconst C (v := 0) dL_law_1733 (by decide) ?_
    cases hf

def f_case_24 (μ : me_M) (o : Int64 × UInt64) (s1 s2 s3 s4 s5 : Int32) : Option (me_M × (Int64 × UInt64)) :=
  me_b2 (f_Y_hasRing μ) (fun μ2 r1 =>
  me_b2 (f_M_hasRing μ2) (fun μ4 r3 =>
  if r1 = r3 then
  (some (μ4, o))
  else
  (none)))
set_option maxHeartbeats 4000000 in
set_option maxRecDepth 100000 in
theorem z_case_24 {X : me_X} {B : me_B} {μ : me_M} {b n : Nat} {xs : Nat → Int32} {i s1 s2 s3 s4 s5 : Int32} {nc ns : Nat} {ret0 : Option FieldType} (C : me_C X B RL cL_law 9 ret0) (hX : me_SX X b n xs) (hroom : me_Rm X 12 464 601024 7293034) (hB : me_St B) (h93 : ∀ i, i < B.2.1 93 → i = 0) (h94 : ∀ i, i < B.2.1 94 → i = 0) (h95 : B.2.1 95 = 0) (hn : nc + 16 ≤ 601024 ∧ ns + 128 ≤ 7293034) (h1 : me_inb (i + 1) n = true) (e1 : xs (me_ix (i + 1)) = s1) (h2 : me_inb (i + 2) n = true) (e2 : xs (me_ix (i + 2)) = s2) (h3 : me_inb (i + 3) n = true) (e3 : xs (me_ix (i + 3)) = s3) (h4 : me_inb (i + 4) n = true) (e4 : xs (me_ix (i + 4)) = s4) (h5 : me_inb (i + 5) n = true) (e5 : xs (me_ix (i + 5)) = s5) {μ' : me_M} {o' : Int64 × UInt64} (hf : f_case_24 μ B.2.2.2 s1 s2 s3 s4 s5 = some (μ', o')) (hK : me_Z X (me_ob B o') (nc + 16) (ns + 128) μ' 2789 [(0, .inl (.ref b)), (1, me_r 0 0), (2, me_r 36 0), (3, me_r 93 0), (4, me_r 94 0), (5, me_i i)] []) : me_Z X B nc ns μ 1735 [(0, .inl (.ref b)), (1, me_r 0 0), (2, me_r 36 0), (3, me_r 93 0), (4, me_r 94 0), (5, me_i i)] [] := by
  unfold f_case_24 at hf
  refine me_aload_n C 1 (Or.inr (Or.inl ⟨_, rfl⟩)) dL_law_1735 rfl rfl ?_
  obtain ⟨μ2, r1, h_r1, hf⟩ := me_bs2 hf
  refine me_callVR C hroom (As := []) (st := []) nc ns (c_Y_hasRing hB h_r1) mv_Y_hasRing ml_L_236 rfl rfl dL_law_1736 rfl rfl ⟨by decide, by decide⟩ ⟨by omega, by omega, by omega, by omega⟩ (Nat.le_of_ble_eq_true rfl) ?_
  refine me_aload_n C 2 (Or.inr (Or.inl ⟨_, rfl⟩)) dL_law_1739 rfl rfl ?_
  obtain ⟨μ4, r3, h_r3, hf⟩ := me_bs2 hf
  refine me_callVR C hroom (As := []) (st := [me_i r1]) (nc + 1) (ns + 64) (c_M_hasRing hB h95 h_r3) mv_M_hasRing ml_L_240 rfl rfl dL_law_1740 rfl rfl ⟨by decide, by decide⟩ ⟨by omega, by omega, by omega, by omega⟩ (Nat.le_of_ble_eq_true rfl) ?_
  refine me_icmp_eq C (tgt := 2789) dL_law_1743 (by decide) (fun c5 => ?_) (fun c5 => ?_)
  · replace hf := me_ip c5 hf
    cases hf
    refine me_wid (nc + 16) (ns + 128) (by omega) (by omega) ?_
    refine me_dropI [(0, .inl (.ref b)), (1, me_r 0 0), (2, me_r 36 0), (3, me_r 93 0), (4, me_r 94 0), (5, me_i i)] [0, 1, 2, 3, 4, 5] rfl ?_
    exact hK
  · replace hf := me_in c5 hf
    refine me_iconst C (v := 0) dL_law_1746 (by decide) ?_
    cases hf

def f_case_25 (μ : me_M) (o : Int64 × UInt64) (s1 s2 s3 s4 s5 : Int32) : Option (me_M × (Int64 × UInt64)) :=
  me_b2 (f_L_direction μ o s1 s2) (fun μ2 r1 =>
  me_b2 (f_M_direction μ2 s1 s2) (fun μ4 r3 =>
  me_bd (f_M_thrown μ4) (fun r5 =>
  if r5 = (r1.2) then
  (if (r1.2) = 0 then
  (if (lg_cmp (r1.1.1) (Int32.toInt64 r3)) = 0 then
  (some (μ4, r1.1))
  else
  (none))
  else
  (some (μ4, r1.1)))
  else
  (none))))
set_option maxHeartbeats 4000000 in
set_option maxRecDepth 100000 in
theorem z_case_25 {X : me_X} {B : me_B} {μ : me_M} {b n : Nat} {xs : Nat → Int32} {i s1 s2 s3 s4 s5 : Int32} {nc ns : Nat} {ret0 : Option FieldType} (C : me_C X B RL cL_law 9 ret0) (hX : me_SX X b n xs) (hroom : me_Rm X 12 464 601024 7293034) (hB : me_St B) (h93 : ∀ i, i < B.2.1 93 → i = 0) (h94 : ∀ i, i < B.2.1 94 → i = 0) (h95 : B.2.1 95 = 0) (hn : nc + 16 ≤ 601024 ∧ ns + 128 ≤ 7293034) (h1 : me_inb (i + 1) n = true) (e1 : xs (me_ix (i + 1)) = s1) (h2 : me_inb (i + 2) n = true) (e2 : xs (me_ix (i + 2)) = s2) (h3 : me_inb (i + 3) n = true) (e3 : xs (me_ix (i + 3)) = s3) (h4 : me_inb (i + 4) n = true) (e4 : xs (me_ix (i + 4)) = s4) (h5 : me_inb (i + 5) n = true) (e5 : xs (me_ix (i + 5)) = s5) {μ' : me_M} {o' : Int64 × UInt64} (hf : f_case_25 μ B.2.2.2 s1 s2 s3 s4 s5 = some (μ', o')) (hK : me_Z X (me_ob B o') (nc + 16) (ns + 128) μ' 2789 [(0, .inl (.ref b)), (1, me_r 0 0), (2, me_r 36 0), (3, me_r 93 0), (4, me_r 94 0), (5, me_i i)] []) : me_Z X B nc ns μ 1748 [(0, .inl (.ref b)), (1, me_r 0 0), (2, me_r 36 0), (3, me_r 93 0), (4, me_r 94 0), (5, me_i i)] [] := by
  unfold f_case_25 at hf
  refine me_aload_n C 1 (Or.inr (Or.inl ⟨_, rfl⟩)) dL_law_1748 rfl rfl ?_
  refine me_aload_n C 0 (Or.inr (Or.inr ⟨_, rfl⟩)) dL_law_1749 rfl rfl ?_
  refine me_iload C dL_law_1750 rfl ?_
  refine me_iconst C (v := 1) dL_law_1752 (by decide) ?_
  refine me_iadd C dL_law_1753 ?_
  refine me_sld C hX h1 e1 dL_law_1754 ?_
  refine me_aload_n C 0 (Or.inr (Or.inr ⟨_, rfl⟩)) dL_law_1755 rfl rfl ?_
  refine me_iload C dL_law_1756 rfl ?_
  refine me_iconst C (v := 2) dL_law_1758 (by decide) ?_
  refine me_iadd C dL_law_1759 ?_
  refine me_sld C hX h2 e2 dL_law_1760 ?_
  refine me_aload_n C 3 (Or.inr (Or.inl ⟨_, rfl⟩)) dL_law_1761 rfl rfl ?_
  obtain ⟨μ2, r1, h_r1, hf⟩ := me_bs2 hf
  refine me_callSH C hroom (n := 4) (As := [me_r 0 0, me_i s1, me_i s2, me_r 93 0]) (st := []) (nc + 2) (ns + 12) (c_L_direction hB h93 h_r1) mh_L_direction iL ⟨by decide +kernel, by decide +kernel⟩ (by decide +kernel) si_L_direction ml_L_241 dL_law_1762 rfl rfl ⟨by decide, by decide⟩ ⟨by omega, by omega, by omega, by omega⟩ (Nat.le_of_ble_eq_true rfl) ?_
  have hB := hB.ob r1.1
  have C := C.ob r1.1
  refine me_istore C dL_law_1765 (by decide) (L' := [(6, me_i (r1.2)), (0, .inl (.ref b)), (1, me_r 0 0), (2, me_r 36 0), (3, me_r 93 0), (4, me_r 94 0), (5, me_i i)]) rfl ?_
  refine me_aload_n C 2 (Or.inr (Or.inl ⟨_, rfl⟩)) dL_law_1767 rfl rfl ?_
  refine me_aload_n C 0 (Or.inr (Or.inr ⟨_, rfl⟩)) dL_law_1768 rfl rfl ?_
  refine me_iload C dL_law_1769 rfl ?_
  refine me_iconst C (v := 1) dL_law_1771 (by decide) ?_
  refine me_iadd C dL_law_1772 ?_
  refine me_sld C hX h1 e1 dL_law_1773 ?_
  refine me_aload_n C 0 (Or.inr (Or.inr ⟨_, rfl⟩)) dL_law_1774 rfl rfl ?_
  refine me_iload C dL_law_1775 rfl ?_
  refine me_iconst C (v := 2) dL_law_1777 (by decide) ?_
  refine me_iadd C dL_law_1778 ?_
  refine me_sld C hX h2 e2 dL_law_1779 ?_
  obtain ⟨μ4, r3, h_r3, hf⟩ := me_bs2 hf
  refine me_callVR C hroom (As := [me_i s1, me_i s2]) (st := []) (nc + 2) (ns + 12) (c_M_direction hB h_r3) mv_M_direction ml_L_243 rfl rfl dL_law_1780 rfl rfl ⟨by decide, by decide⟩ ⟨by omega, by omega, by omega, by omega⟩ (Nat.le_of_ble_eq_true rfl) ?_
  refine me_istore C dL_law_1783 (by decide) (L' := [(7, me_i r3), (6, me_i (r1.2)), (0, .inl (.ref b)), (1, me_r 0 0), (2, me_r 36 0), (3, me_r 93 0), (4, me_r 94 0), (5, me_i i)]) rfl ?_
  refine me_aload_n C 2 (Or.inr (Or.inl ⟨_, rfl⟩)) dL_law_1785 rfl rfl ?_
  obtain ⟨r5, h_r5, hf⟩ := me_bs hf
  refine me_callVR C hroom (As := []) (st := []) (nc + 2) (ns + 12) (c_M_thrown hB h_r5) mv_M_thrown ml_L_154 rfl rfl dL_law_1786 rfl rfl ⟨by decide, by decide⟩ ⟨by omega, by omega, by omega, by omega⟩ (Nat.le_of_ble_eq_true rfl) ?_
  refine me_iload C dL_law_1789 rfl ?_
  refine me_icmp_eq C (tgt := 1796) dL_law_1791 (by decide) (fun c6 => ?_) (fun c6 => ?_)
  · replace hf := me_ip c6 hf
    refine me_iload C dL_law_1796 rfl ?_
    refine me_if_ne C (tgt := 1813) dL_law_1798 (by decide) (fun c7 => ?_) (fun c7 => ?_)
    · replace hf := me_in c7 hf
      refine me_goto C (tgt := 2789) dL_law_1813 (by decide) ?_
      cases hf
      refine me_wid (nc + 16) (ns + 128) (by omega) (by omega) ?_
      refine me_dropI [(0, .inl (.ref b)), (1, me_r 0 0), (2, me_r 36 0), (3, me_r 93 0), (4, me_r 94 0), (5, me_i i)] [2, 3, 4, 5, 6, 7] rfl ?_
      exact hK
    · replace hf := me_ip c7 hf
      refine me_aload_n C 3 (Or.inr (Or.inl ⟨_, rfl⟩)) dL_law_1801 rfl rfl ?_
      refine me_iconst C (v := 0) dL_law_1802 (by decide) ?_
      refine me_lald C dL_law_1803 ?_
      refine me_iload C dL_law_1804 rfl ?_
      refine me_i2l C dL_law_1806 ?_
      refine me_lcmp C dL_law_1807 ?_
      refine me_if_eq C (tgt := 1813) dL_law_1808 (by decide) (fun c8 => ?_) (fun c8 => ?_)
      · replace hf := me_ip c8 hf
        refine me_goto C (tgt := 2789) dL_law_1813 (by decide) ?_
        cases hf
        refine me_wid (nc + 16) (ns + 128) (by omega) (by omega) ?_
        refine me_dropI [(0, .inl (.ref b)), (1, me_r 0 0), (2, me_r 36 0), (3, me_r 93 0), (4, me_r 94 0), (5, me_i i)] [2, 3, 4, 5, 6, 7] rfl ?_
        exact hK
      · replace hf := me_in c8 hf
        refine me_iconst C (v := 0) dL_law_1811 (by decide) ?_
        cases hf
  · replace hf := me_in c6 hf
    refine me_iconst C (v := 0) dL_law_1794 (by decide) ?_
    cases hf

def f_case_26 (μ : me_M) (o : Int64 × UInt64) (s1 s2 s3 s4 s5 : Int32) : Option (me_M × (Int64 × UInt64)) :=
  me_b2 (f_L_program μ o s1 (me_i2c' s2) s3) (fun μ2 r1 =>
  me_b2 (f_M_program μ2 s1 (me_i2c' s2) s3) (fun μ4 r3 =>
  me_bd (f_M_thrown μ4) (fun r5 =>
  if r5 = (r1.2) then
  (if (r1.2) = 0 then
  (if (lg_cmp (r1.1.1) (Int32.toInt64 r3)) = 0 then
  (some (μ4, r1.1))
  else
  (none))
  else
  (some (μ4, r1.1)))
  else
  (none))))
set_option maxHeartbeats 4000000 in
set_option maxRecDepth 100000 in
theorem z_case_26 {X : me_X} {B : me_B} {μ : me_M} {b n : Nat} {xs : Nat → Int32} {i s1 s2 s3 s4 s5 : Int32} {nc ns : Nat} {ret0 : Option FieldType} (C : me_C X B RL cL_law 9 ret0) (hX : me_SX X b n xs) (hroom : me_Rm X 12 464 601024 7293034) (hB : me_St B) (h93 : ∀ i, i < B.2.1 93 → i = 0) (h94 : ∀ i, i < B.2.1 94 → i = 0) (h95 : B.2.1 95 = 0) (hn : nc + 16 ≤ 601024 ∧ ns + 128 ≤ 7293034) (h1 : me_inb (i + 1) n = true) (e1 : xs (me_ix (i + 1)) = s1) (h2 : me_inb (i + 2) n = true) (e2 : xs (me_ix (i + 2)) = s2) (h3 : me_inb (i + 3) n = true) (e3 : xs (me_ix (i + 3)) = s3) (h4 : me_inb (i + 4) n = true) (e4 : xs (me_ix (i + 4)) = s4) (h5 : me_inb (i + 5) n = true) (e5 : xs (me_ix (i + 5)) = s5) {μ' : me_M} {o' : Int64 × UInt64} (hf : f_case_26 μ B.2.2.2 s1 s2 s3 s4 s5 = some (μ', o')) (hK : me_Z X (me_ob B o') (nc + 16) (ns + 128) μ' 2789 [(0, .inl (.ref b)), (1, me_r 0 0), (2, me_r 36 0), (3, me_r 93 0), (4, me_r 94 0), (5, me_i i)] []) : me_Z X B nc ns μ 1816 [(0, .inl (.ref b)), (1, me_r 0 0), (2, me_r 36 0), (3, me_r 93 0), (4, me_r 94 0), (5, me_i i)] [] := by
  unfold f_case_26 at hf
  refine me_aload_n C 1 (Or.inr (Or.inl ⟨_, rfl⟩)) dL_law_1816 rfl rfl ?_
  refine me_aload_n C 0 (Or.inr (Or.inr ⟨_, rfl⟩)) dL_law_1817 rfl rfl ?_
  refine me_iload C dL_law_1818 rfl ?_
  refine me_iconst C (v := 1) dL_law_1820 (by decide) ?_
  refine me_iadd C dL_law_1821 ?_
  refine me_sld C hX h1 e1 dL_law_1822 ?_
  refine me_aload_n C 0 (Or.inr (Or.inr ⟨_, rfl⟩)) dL_law_1823 rfl rfl ?_
  refine me_iload C dL_law_1824 rfl ?_
  refine me_iconst C (v := 2) dL_law_1826 (by decide) ?_
  refine me_iadd C dL_law_1827 ?_
  refine me_sld C hX h2 e2 dL_law_1828 ?_
  refine me_i2c C dL_law_1829 ?_
  refine me_aload_n C 0 (Or.inr (Or.inr ⟨_, rfl⟩)) dL_law_1830 rfl rfl ?_
  refine me_iload C dL_law_1831 rfl ?_
  refine me_iconst C (v := 3) dL_law_1833 (by decide) ?_
  refine me_iadd C dL_law_1834 ?_
  refine me_sld C hX h3 e3 dL_law_1835 ?_
  refine me_aload_n C 3 (Or.inr (Or.inl ⟨_, rfl⟩)) dL_law_1836 rfl rfl ?_
  obtain ⟨μ2, r1, h_r1, hf⟩ := me_bs2 hf
  refine me_callSH C hroom (n := 5) (As := [me_r 0 0, me_i s1, me_i (me_i2c' s2), me_i s3, me_r 93 0]) (st := []) (nc + 2) (ns + 12) (c_L_program hB h93 h_r1) mh_L_program iL ⟨by decide +kernel, by decide +kernel⟩ (by decide +kernel) si_L_program ml_L_244 dL_law_1837 rfl rfl ⟨by decide, by decide⟩ ⟨by omega, by omega, by omega, by omega⟩ (Nat.le_of_ble_eq_true rfl) ?_
  have hB := hB.ob r1.1
  have C := C.ob r1.1
  refine me_istore C dL_law_1840 (by decide) (L' := [(6, me_i (r1.2)), (0, .inl (.ref b)), (1, me_r 0 0), (2, me_r 36 0), (3, me_r 93 0), (4, me_r 94 0), (5, me_i i)]) rfl ?_
  refine me_aload_n C 2 (Or.inr (Or.inl ⟨_, rfl⟩)) dL_law_1842 rfl rfl ?_
  refine me_aload_n C 0 (Or.inr (Or.inr ⟨_, rfl⟩)) dL_law_1843 rfl rfl ?_
  refine me_iload C dL_law_1844 rfl ?_
  refine me_iconst C (v := 1) dL_law_1846 (by decide) ?_
  refine me_iadd C dL_law_1847 ?_
  refine me_sld C hX h1 e1 dL_law_1848 ?_
  refine me_aload_n C 0 (Or.inr (Or.inr ⟨_, rfl⟩)) dL_law_1849 rfl rfl ?_
  refine me_iload C dL_law_1850 rfl ?_
  refine me_iconst C (v := 2) dL_law_1852 (by decide) ?_
  refine me_iadd C dL_law_1853 ?_
  refine me_sld C hX h2 e2 dL_law_1854 ?_
  refine me_i2c C dL_law_1855 ?_
  refine me_aload_n C 0 (Or.inr (Or.inr ⟨_, rfl⟩)) dL_law_1856 rfl rfl ?_
  refine me_iload C dL_law_1857 rfl ?_
  refine me_iconst C (v := 3) dL_law_1859 (by decide) ?_
  refine me_iadd C dL_law_1860 ?_
  refine me_sld C hX h3 e3 dL_law_1861 ?_
  obtain ⟨μ4, r3, h_r3, hf⟩ := me_bs2 hf
  refine me_callVR C hroom (As := [me_i s1, me_i (me_i2c' s2), me_i s3]) (st := []) (nc + 2) (ns + 12) (c_M_program hB h_r3) mv_M_program ml_L_246 rfl rfl dL_law_1862 rfl rfl ⟨by decide, by decide⟩ ⟨by omega, by omega, by omega, by omega⟩ (Nat.le_of_ble_eq_true rfl) ?_
  refine me_istore C dL_law_1865 (by decide) (L' := [(7, me_i r3), (6, me_i (r1.2)), (0, .inl (.ref b)), (1, me_r 0 0), (2, me_r 36 0), (3, me_r 93 0), (4, me_r 94 0), (5, me_i i)]) rfl ?_
  refine me_aload_n C 2 (Or.inr (Or.inl ⟨_, rfl⟩)) dL_law_1867 rfl rfl ?_
  obtain ⟨r5, h_r5, hf⟩ := me_bs hf
  refine me_callVR C hroom (As := []) (st := []) (nc + 2) (ns + 12) (c_M_thrown hB h_r5) mv_M_thrown ml_L_154 rfl rfl dL_law_1868 rfl rfl ⟨by decide, by decide⟩ ⟨by omega, by omega, by omega, by omega⟩ (Nat.le_of_ble_eq_true rfl) ?_
  refine me_iload C dL_law_1871 rfl ?_
  refine me_icmp_eq C (tgt := 1878) dL_law_1873 (by decide) (fun c6 => ?_) (fun c6 => ?_)
  · replace hf := me_ip c6 hf
    refine me_iload C dL_law_1878 rfl ?_
    refine me_if_ne C (tgt := 1895) dL_law_1880 (by decide) (fun c7 => ?_) (fun c7 => ?_)
    · replace hf := me_in c7 hf
      refine me_goto C (tgt := 2789) dL_law_1895 (by decide) ?_
      cases hf
      refine me_wid (nc + 16) (ns + 128) (by omega) (by omega) ?_
      refine me_dropI [(0, .inl (.ref b)), (1, me_r 0 0), (2, me_r 36 0), (3, me_r 93 0), (4, me_r 94 0), (5, me_i i)] [2, 3, 4, 5, 6, 7] rfl ?_
      exact hK
    · replace hf := me_ip c7 hf
      refine me_aload_n C 3 (Or.inr (Or.inl ⟨_, rfl⟩)) dL_law_1883 rfl rfl ?_
      refine me_iconst C (v := 0) dL_law_1884 (by decide) ?_
      refine me_lald C dL_law_1885 ?_
      refine me_iload C dL_law_1886 rfl ?_
      refine me_i2l C dL_law_1888 ?_
      refine me_lcmp C dL_law_1889 ?_
      refine me_if_eq C (tgt := 1895) dL_law_1890 (by decide) (fun c8 => ?_) (fun c8 => ?_)
      · replace hf := me_ip c8 hf
        refine me_goto C (tgt := 2789) dL_law_1895 (by decide) ?_
        cases hf
        refine me_wid (nc + 16) (ns + 128) (by omega) (by omega) ?_
        refine me_dropI [(0, .inl (.ref b)), (1, me_r 0 0), (2, me_r 36 0), (3, me_r 93 0), (4, me_r 94 0), (5, me_i i)] [2, 3, 4, 5, 6, 7] rfl ?_
        exact hK
      · replace hf := me_in c8 hf
        refine me_iconst C (v := 0) dL_law_1893 (by decide) ?_
        cases hf
  · replace hf := me_in c6 hf
    refine me_iconst C (v := 0) dL_law_1876 (by decide) ?_
    cases hf

def f_case_27 (μ : me_M) (o : Int64 × UInt64) (s1 s2 s3 s4 s5 : Int32) : Option (me_M × (Int64 × UInt64)) :=
  me_b2 (f_L_clear μ o s1) (fun μ2 r1 =>
  me_b2 (f_M_clear μ2 s1) (fun μ4 r3 =>
  me_bd (f_M_thrown μ4) (fun r5 =>
  if r5 = (r1.2) then
  (if (r1.2) = 0 then
  (if (lg_cmp (r1.1.1) (Int32.toInt64 r3)) = 0 then
  (some (μ4, r1.1))
  else
  (none))
  else
  (some (μ4, r1.1)))
  else
  (none))))
set_option maxHeartbeats 4000000 in
set_option maxRecDepth 100000 in
theorem z_case_27 {X : me_X} {B : me_B} {μ : me_M} {b n : Nat} {xs : Nat → Int32} {i s1 s2 s3 s4 s5 : Int32} {nc ns : Nat} {ret0 : Option FieldType} (C : me_C X B RL cL_law 9 ret0) (hX : me_SX X b n xs) (hroom : me_Rm X 12 464 601024 7293034) (hB : me_St B) (h93 : ∀ i, i < B.2.1 93 → i = 0) (h94 : ∀ i, i < B.2.1 94 → i = 0) (h95 : B.2.1 95 = 0) (hn : nc + 16 ≤ 601024 ∧ ns + 128 ≤ 7293034) (h1 : me_inb (i + 1) n = true) (e1 : xs (me_ix (i + 1)) = s1) (h2 : me_inb (i + 2) n = true) (e2 : xs (me_ix (i + 2)) = s2) (h3 : me_inb (i + 3) n = true) (e3 : xs (me_ix (i + 3)) = s3) (h4 : me_inb (i + 4) n = true) (e4 : xs (me_ix (i + 4)) = s4) (h5 : me_inb (i + 5) n = true) (e5 : xs (me_ix (i + 5)) = s5) {μ' : me_M} {o' : Int64 × UInt64} (hf : f_case_27 μ B.2.2.2 s1 s2 s3 s4 s5 = some (μ', o')) (hK : me_Z X (me_ob B o') (nc + 16) (ns + 128) μ' 2789 [(0, .inl (.ref b)), (1, me_r 0 0), (2, me_r 36 0), (3, me_r 93 0), (4, me_r 94 0), (5, me_i i)] []) : me_Z X B nc ns μ 1898 [(0, .inl (.ref b)), (1, me_r 0 0), (2, me_r 36 0), (3, me_r 93 0), (4, me_r 94 0), (5, me_i i)] [] := by
  unfold f_case_27 at hf
  refine me_aload_n C 1 (Or.inr (Or.inl ⟨_, rfl⟩)) dL_law_1898 rfl rfl ?_
  refine me_aload_n C 0 (Or.inr (Or.inr ⟨_, rfl⟩)) dL_law_1899 rfl rfl ?_
  refine me_iload C dL_law_1900 rfl ?_
  refine me_iconst C (v := 1) dL_law_1902 (by decide) ?_
  refine me_iadd C dL_law_1903 ?_
  refine me_sld C hX h1 e1 dL_law_1904 ?_
  refine me_aload_n C 3 (Or.inr (Or.inl ⟨_, rfl⟩)) dL_law_1905 rfl rfl ?_
  obtain ⟨μ2, r1, h_r1, hf⟩ := me_bs2 hf
  refine me_callSH C hroom (n := 3) (As := [me_r 0 0, me_i s1, me_r 93 0]) (st := []) (nc + 2) (ns + 12) (c_L_clear hB h93 h_r1) mh_L_clear iL ⟨by decide +kernel, by decide +kernel⟩ (by decide +kernel) si_L_clear ml_L_247 dL_law_1906 rfl rfl ⟨by decide, by decide⟩ ⟨by omega, by omega, by omega, by omega⟩ (Nat.le_of_ble_eq_true rfl) ?_
  have hB := hB.ob r1.1
  have C := C.ob r1.1
  refine me_istore C dL_law_1909 (by decide) (L' := [(6, me_i (r1.2)), (0, .inl (.ref b)), (1, me_r 0 0), (2, me_r 36 0), (3, me_r 93 0), (4, me_r 94 0), (5, me_i i)]) rfl ?_
  refine me_aload_n C 2 (Or.inr (Or.inl ⟨_, rfl⟩)) dL_law_1911 rfl rfl ?_
  refine me_aload_n C 0 (Or.inr (Or.inr ⟨_, rfl⟩)) dL_law_1912 rfl rfl ?_
  refine me_iload C dL_law_1913 rfl ?_
  refine me_iconst C (v := 1) dL_law_1915 (by decide) ?_
  refine me_iadd C dL_law_1916 ?_
  refine me_sld C hX h1 e1 dL_law_1917 ?_
  obtain ⟨μ4, r3, h_r3, hf⟩ := me_bs2 hf
  refine me_callVR C hroom (As := [me_i s1]) (st := []) (nc + 2) (ns + 12) (c_M_clear hB h_r3) mv_M_clear ml_L_249 rfl rfl dL_law_1918 rfl rfl ⟨by decide, by decide⟩ ⟨by omega, by omega, by omega, by omega⟩ (Nat.le_of_ble_eq_true rfl) ?_
  refine me_istore C dL_law_1921 (by decide) (L' := [(7, me_i r3), (6, me_i (r1.2)), (0, .inl (.ref b)), (1, me_r 0 0), (2, me_r 36 0), (3, me_r 93 0), (4, me_r 94 0), (5, me_i i)]) rfl ?_
  refine me_aload_n C 2 (Or.inr (Or.inl ⟨_, rfl⟩)) dL_law_1923 rfl rfl ?_
  obtain ⟨r5, h_r5, hf⟩ := me_bs hf
  refine me_callVR C hroom (As := []) (st := []) (nc + 2) (ns + 12) (c_M_thrown hB h_r5) mv_M_thrown ml_L_154 rfl rfl dL_law_1924 rfl rfl ⟨by decide, by decide⟩ ⟨by omega, by omega, by omega, by omega⟩ (Nat.le_of_ble_eq_true rfl) ?_
  refine me_iload C dL_law_1927 rfl ?_
  refine me_icmp_eq C (tgt := 1934) dL_law_1929 (by decide) (fun c6 => ?_) (fun c6 => ?_)
  · replace hf := me_ip c6 hf
    refine me_iload C dL_law_1934 rfl ?_
    refine me_if_ne C (tgt := 1951) dL_law_1936 (by decide) (fun c7 => ?_) (fun c7 => ?_)
    · replace hf := me_in c7 hf
      refine me_goto C (tgt := 2789) dL_law_1951 (by decide) ?_
      cases hf
      refine me_wid (nc + 16) (ns + 128) (by omega) (by omega) ?_
      refine me_dropI [(0, .inl (.ref b)), (1, me_r 0 0), (2, me_r 36 0), (3, me_r 93 0), (4, me_r 94 0), (5, me_i i)] [2, 3, 4, 5, 6, 7] rfl ?_
      exact hK
    · replace hf := me_ip c7 hf
      refine me_aload_n C 3 (Or.inr (Or.inl ⟨_, rfl⟩)) dL_law_1939 rfl rfl ?_
      refine me_iconst C (v := 0) dL_law_1940 (by decide) ?_
      refine me_lald C dL_law_1941 ?_
      refine me_iload C dL_law_1942 rfl ?_
      refine me_i2l C dL_law_1944 ?_
      refine me_lcmp C dL_law_1945 ?_
      refine me_if_eq C (tgt := 1951) dL_law_1946 (by decide) (fun c8 => ?_) (fun c8 => ?_)
      · replace hf := me_ip c8 hf
        refine me_goto C (tgt := 2789) dL_law_1951 (by decide) ?_
        cases hf
        refine me_wid (nc + 16) (ns + 128) (by omega) (by omega) ?_
        refine me_dropI [(0, .inl (.ref b)), (1, me_r 0 0), (2, me_r 36 0), (3, me_r 93 0), (4, me_r 94 0), (5, me_i i)] [2, 3, 4, 5, 6, 7] rfl ?_
        exact hK
      · replace hf := me_in c8 hf
        refine me_iconst C (v := 0) dL_law_1949 (by decide) ?_
        cases hf
  · replace hf := me_in c6 hf
    refine me_iconst C (v := 0) dL_law_1932 (by decide) ?_
    cases hf

def f_case_28 (μ : me_M) (o : Int64 × UInt64) (s1 s2 s3 s4 s5 : Int32) : Option (me_M × (Int64 × UInt64)) :=
  me_b2 (f_L_start μ o s1) (fun μ2 r1 =>
  me_b2 (f_M_start μ2 s1) (fun μ4 r3 =>
  me_bd (f_M_thrown μ4) (fun r5 =>
  if r5 = (r1.2) then
  (if (r1.2) = 0 then
  (if (lg_cmp (r1.1.1) (Int32.toInt64 r3)) = 0 then
  (some (μ4, r1.1))
  else
  (none))
  else
  (some (μ4, r1.1)))
  else
  (none))))
set_option maxHeartbeats 4000000 in
set_option maxRecDepth 100000 in
theorem z_case_28 {X : me_X} {B : me_B} {μ : me_M} {b n : Nat} {xs : Nat → Int32} {i s1 s2 s3 s4 s5 : Int32} {nc ns : Nat} {ret0 : Option FieldType} (C : me_C X B RL cL_law 9 ret0) (hX : me_SX X b n xs) (hroom : me_Rm X 12 464 601024 7293034) (hB : me_St B) (h93 : ∀ i, i < B.2.1 93 → i = 0) (h94 : ∀ i, i < B.2.1 94 → i = 0) (h95 : B.2.1 95 = 0) (hn : nc + 16 ≤ 601024 ∧ ns + 128 ≤ 7293034) (h1 : me_inb (i + 1) n = true) (e1 : xs (me_ix (i + 1)) = s1) (h2 : me_inb (i + 2) n = true) (e2 : xs (me_ix (i + 2)) = s2) (h3 : me_inb (i + 3) n = true) (e3 : xs (me_ix (i + 3)) = s3) (h4 : me_inb (i + 4) n = true) (e4 : xs (me_ix (i + 4)) = s4) (h5 : me_inb (i + 5) n = true) (e5 : xs (me_ix (i + 5)) = s5) {μ' : me_M} {o' : Int64 × UInt64} (hf : f_case_28 μ B.2.2.2 s1 s2 s3 s4 s5 = some (μ', o')) (hK : me_Z X (me_ob B o') (nc + 16) (ns + 128) μ' 2789 [(0, .inl (.ref b)), (1, me_r 0 0), (2, me_r 36 0), (3, me_r 93 0), (4, me_r 94 0), (5, me_i i)] []) : me_Z X B nc ns μ 1954 [(0, .inl (.ref b)), (1, me_r 0 0), (2, me_r 36 0), (3, me_r 93 0), (4, me_r 94 0), (5, me_i i)] [] := by
  unfold f_case_28 at hf
  refine me_aload_n C 1 (Or.inr (Or.inl ⟨_, rfl⟩)) dL_law_1954 rfl rfl ?_
  refine me_aload_n C 0 (Or.inr (Or.inr ⟨_, rfl⟩)) dL_law_1955 rfl rfl ?_
  refine me_iload C dL_law_1956 rfl ?_
  refine me_iconst C (v := 1) dL_law_1958 (by decide) ?_
  refine me_iadd C dL_law_1959 ?_
  refine me_sld C hX h1 e1 dL_law_1960 ?_
  refine me_aload_n C 3 (Or.inr (Or.inl ⟨_, rfl⟩)) dL_law_1961 rfl rfl ?_
  obtain ⟨μ2, r1, h_r1, hf⟩ := me_bs2 hf
  refine me_callSH C hroom (n := 3) (As := [me_r 0 0, me_i s1, me_r 93 0]) (st := []) (nc + 2) (ns + 12) (c_L_start hB h93 h_r1) mh_L_start iL ⟨by decide +kernel, by decide +kernel⟩ (by decide +kernel) si_L_start ml_L_250 dL_law_1962 rfl rfl ⟨by decide, by decide⟩ ⟨by omega, by omega, by omega, by omega⟩ (Nat.le_of_ble_eq_true rfl) ?_
  have hB := hB.ob r1.1
  have C := C.ob r1.1
  refine me_istore C dL_law_1965 (by decide) (L' := [(6, me_i (r1.2)), (0, .inl (.ref b)), (1, me_r 0 0), (2, me_r 36 0), (3, me_r 93 0), (4, me_r 94 0), (5, me_i i)]) rfl ?_
  refine me_aload_n C 2 (Or.inr (Or.inl ⟨_, rfl⟩)) dL_law_1967 rfl rfl ?_
  refine me_aload_n C 0 (Or.inr (Or.inr ⟨_, rfl⟩)) dL_law_1968 rfl rfl ?_
  refine me_iload C dL_law_1969 rfl ?_
  refine me_iconst C (v := 1) dL_law_1971 (by decide) ?_
  refine me_iadd C dL_law_1972 ?_
  refine me_sld C hX h1 e1 dL_law_1973 ?_
  obtain ⟨μ4, r3, h_r3, hf⟩ := me_bs2 hf
  refine me_callVR C hroom (As := [me_i s1]) (st := []) (nc + 2) (ns + 12) (c_M_start hB h_r3) mv_M_start ml_L_252 rfl rfl dL_law_1974 rfl rfl ⟨by decide, by decide⟩ ⟨by omega, by omega, by omega, by omega⟩ (Nat.le_of_ble_eq_true rfl) ?_
  refine me_istore C dL_law_1977 (by decide) (L' := [(7, me_i r3), (6, me_i (r1.2)), (0, .inl (.ref b)), (1, me_r 0 0), (2, me_r 36 0), (3, me_r 93 0), (4, me_r 94 0), (5, me_i i)]) rfl ?_
  refine me_aload_n C 2 (Or.inr (Or.inl ⟨_, rfl⟩)) dL_law_1979 rfl rfl ?_
  obtain ⟨r5, h_r5, hf⟩ := me_bs hf
  refine me_callVR C hroom (As := []) (st := []) (nc + 2) (ns + 12) (c_M_thrown hB h_r5) mv_M_thrown ml_L_154 rfl rfl dL_law_1980 rfl rfl ⟨by decide, by decide⟩ ⟨by omega, by omega, by omega, by omega⟩ (Nat.le_of_ble_eq_true rfl) ?_
  refine me_iload C dL_law_1983 rfl ?_
  refine me_icmp_eq C (tgt := 1990) dL_law_1985 (by decide) (fun c6 => ?_) (fun c6 => ?_)
  · replace hf := me_ip c6 hf
    refine me_iload C dL_law_1990 rfl ?_
    refine me_if_ne C (tgt := 2007) dL_law_1992 (by decide) (fun c7 => ?_) (fun c7 => ?_)
    · replace hf := me_in c7 hf
      refine me_goto C (tgt := 2789) dL_law_2007 (by decide) ?_
      cases hf
      refine me_wid (nc + 16) (ns + 128) (by omega) (by omega) ?_
      refine me_dropI [(0, .inl (.ref b)), (1, me_r 0 0), (2, me_r 36 0), (3, me_r 93 0), (4, me_r 94 0), (5, me_i i)] [2, 3, 4, 5, 6, 7] rfl ?_
      exact hK
    · replace hf := me_ip c7 hf
      refine me_aload_n C 3 (Or.inr (Or.inl ⟨_, rfl⟩)) dL_law_1995 rfl rfl ?_
      refine me_iconst C (v := 0) dL_law_1996 (by decide) ?_
      refine me_lald C dL_law_1997 ?_
      refine me_iload C dL_law_1998 rfl ?_
      refine me_i2l C dL_law_2000 ?_
      refine me_lcmp C dL_law_2001 ?_
      refine me_if_eq C (tgt := 2007) dL_law_2002 (by decide) (fun c8 => ?_) (fun c8 => ?_)
      · replace hf := me_ip c8 hf
        refine me_goto C (tgt := 2789) dL_law_2007 (by decide) ?_
        cases hf
        refine me_wid (nc + 16) (ns + 128) (by omega) (by omega) ?_
        refine me_dropI [(0, .inl (.ref b)), (1, me_r 0 0), (2, me_r 36 0), (3, me_r 93 0), (4, me_r 94 0), (5, me_i i)] [2, 3, 4, 5, 6, 7] rfl ?_
        exact hK
      · replace hf := me_in c8 hf
        refine me_iconst C (v := 0) dL_law_2005 (by decide) ?_
        cases hf
  · replace hf := me_in c6 hf
    refine me_iconst C (v := 0) dL_law_1988 (by decide) ?_
    cases hf

def f_case_29 (μ : me_M) (o : Int64 × UInt64) (s1 s2 s3 s4 s5 : Int32) : Option (me_M × (Int64 × UInt64)) :=
  me_b2 (f_L_core μ o s1) (fun μ2 r1 =>
  me_b2 (f_M_core μ2 s1) (fun μ4 r3 =>
  me_bd (f_M_thrown μ4) (fun r5 =>
  if r5 = (r1.2) then
  (if (r1.2) = 0 then
  (if (lg_cmp (r1.1.1) (Int32.toInt64 r3)) = 0 then
  (some (μ4, r1.1))
  else
  (none))
  else
  (some (μ4, r1.1)))
  else
  (none))))
set_option maxHeartbeats 4000000 in
set_option maxRecDepth 100000 in
theorem z_case_29 {X : me_X} {B : me_B} {μ : me_M} {b n : Nat} {xs : Nat → Int32} {i s1 s2 s3 s4 s5 : Int32} {nc ns : Nat} {ret0 : Option FieldType} (C : me_C X B RL cL_law 9 ret0) (hX : me_SX X b n xs) (hroom : me_Rm X 12 464 601024 7293034) (hB : me_St B) (h93 : ∀ i, i < B.2.1 93 → i = 0) (h94 : ∀ i, i < B.2.1 94 → i = 0) (h95 : B.2.1 95 = 0) (hn : nc + 16 ≤ 601024 ∧ ns + 128 ≤ 7293034) (h1 : me_inb (i + 1) n = true) (e1 : xs (me_ix (i + 1)) = s1) (h2 : me_inb (i + 2) n = true) (e2 : xs (me_ix (i + 2)) = s2) (h3 : me_inb (i + 3) n = true) (e3 : xs (me_ix (i + 3)) = s3) (h4 : me_inb (i + 4) n = true) (e4 : xs (me_ix (i + 4)) = s4) (h5 : me_inb (i + 5) n = true) (e5 : xs (me_ix (i + 5)) = s5) {μ' : me_M} {o' : Int64 × UInt64} (hf : f_case_29 μ B.2.2.2 s1 s2 s3 s4 s5 = some (μ', o')) (hK : me_Z X (me_ob B o') (nc + 16) (ns + 128) μ' 2789 [(0, .inl (.ref b)), (1, me_r 0 0), (2, me_r 36 0), (3, me_r 93 0), (4, me_r 94 0), (5, me_i i)] []) : me_Z X B nc ns μ 2010 [(0, .inl (.ref b)), (1, me_r 0 0), (2, me_r 36 0), (3, me_r 93 0), (4, me_r 94 0), (5, me_i i)] [] := by
  unfold f_case_29 at hf
  refine me_aload_n C 1 (Or.inr (Or.inl ⟨_, rfl⟩)) dL_law_2010 rfl rfl ?_
  refine me_aload_n C 0 (Or.inr (Or.inr ⟨_, rfl⟩)) dL_law_2011 rfl rfl ?_
  refine me_iload C dL_law_2012 rfl ?_
  refine me_iconst C (v := 1) dL_law_2014 (by decide) ?_
  refine me_iadd C dL_law_2015 ?_
  refine me_sld C hX h1 e1 dL_law_2016 ?_
  refine me_aload_n C 3 (Or.inr (Or.inl ⟨_, rfl⟩)) dL_law_2017 rfl rfl ?_
  obtain ⟨μ2, r1, h_r1, hf⟩ := me_bs2 hf
  refine me_callSH C hroom (n := 3) (As := [me_r 0 0, me_i s1, me_r 93 0]) (st := []) (nc + 1) (ns + 6) (c_L_core hB h93 h_r1) mh_L_core iL ⟨by decide +kernel, by decide +kernel⟩ (by decide +kernel) si_L_core ml_L_253 dL_law_2018 rfl rfl ⟨by decide, by decide⟩ ⟨by omega, by omega, by omega, by omega⟩ (Nat.le_of_ble_eq_true rfl) ?_
  have hB := hB.ob r1.1
  have C := C.ob r1.1
  refine me_istore C dL_law_2021 (by decide) (L' := [(6, me_i (r1.2)), (0, .inl (.ref b)), (1, me_r 0 0), (2, me_r 36 0), (3, me_r 93 0), (4, me_r 94 0), (5, me_i i)]) rfl ?_
  refine me_aload_n C 2 (Or.inr (Or.inl ⟨_, rfl⟩)) dL_law_2023 rfl rfl ?_
  refine me_aload_n C 0 (Or.inr (Or.inr ⟨_, rfl⟩)) dL_law_2024 rfl rfl ?_
  refine me_iload C dL_law_2025 rfl ?_
  refine me_iconst C (v := 1) dL_law_2027 (by decide) ?_
  refine me_iadd C dL_law_2028 ?_
  refine me_sld C hX h1 e1 dL_law_2029 ?_
  obtain ⟨μ4, r3, h_r3, hf⟩ := me_bs2 hf
  refine me_callVR C hroom (As := [me_i s1]) (st := []) (nc + 1) (ns + 6) (c_M_core hB h_r3) mv_M_core ml_L_255 rfl rfl dL_law_2030 rfl rfl ⟨by decide, by decide⟩ ⟨by omega, by omega, by omega, by omega⟩ (Nat.le_of_ble_eq_true rfl) ?_
  refine me_istore C dL_law_2033 (by decide) (L' := [(7, me_i r3), (6, me_i (r1.2)), (0, .inl (.ref b)), (1, me_r 0 0), (2, me_r 36 0), (3, me_r 93 0), (4, me_r 94 0), (5, me_i i)]) rfl ?_
  refine me_aload_n C 2 (Or.inr (Or.inl ⟨_, rfl⟩)) dL_law_2035 rfl rfl ?_
  obtain ⟨r5, h_r5, hf⟩ := me_bs hf
  refine me_callVR C hroom (As := []) (st := []) (nc + 1) (ns + 6) (c_M_thrown hB h_r5) mv_M_thrown ml_L_154 rfl rfl dL_law_2036 rfl rfl ⟨by decide, by decide⟩ ⟨by omega, by omega, by omega, by omega⟩ (Nat.le_of_ble_eq_true rfl) ?_
  refine me_iload C dL_law_2039 rfl ?_
  refine me_icmp_eq C (tgt := 2046) dL_law_2041 (by decide) (fun c6 => ?_) (fun c6 => ?_)
  · replace hf := me_ip c6 hf
    refine me_iload C dL_law_2046 rfl ?_
    refine me_if_ne C (tgt := 2063) dL_law_2048 (by decide) (fun c7 => ?_) (fun c7 => ?_)
    · replace hf := me_in c7 hf
      refine me_goto C (tgt := 2789) dL_law_2063 (by decide) ?_
      cases hf
      refine me_wid (nc + 16) (ns + 128) (by omega) (by omega) ?_
      refine me_dropI [(0, .inl (.ref b)), (1, me_r 0 0), (2, me_r 36 0), (3, me_r 93 0), (4, me_r 94 0), (5, me_i i)] [2, 3, 4, 5, 6, 7] rfl ?_
      exact hK
    · replace hf := me_ip c7 hf
      refine me_aload_n C 3 (Or.inr (Or.inl ⟨_, rfl⟩)) dL_law_2051 rfl rfl ?_
      refine me_iconst C (v := 0) dL_law_2052 (by decide) ?_
      refine me_lald C dL_law_2053 ?_
      refine me_iload C dL_law_2054 rfl ?_
      refine me_i2l C dL_law_2056 ?_
      refine me_lcmp C dL_law_2057 ?_
      refine me_if_eq C (tgt := 2063) dL_law_2058 (by decide) (fun c8 => ?_) (fun c8 => ?_)
      · replace hf := me_ip c8 hf
        refine me_goto C (tgt := 2789) dL_law_2063 (by decide) ?_
        cases hf
        refine me_wid (nc + 16) (ns + 128) (by omega) (by omega) ?_
        refine me_dropI [(0, .inl (.ref b)), (1, me_r 0 0), (2, me_r 36 0), (3, me_r 93 0), (4, me_r 94 0), (5, me_i i)] [2, 3, 4, 5, 6, 7] rfl ?_
        exact hK
      · replace hf := me_in c8 hf
        refine me_iconst C (v := 0) dL_law_2061 (by decide) ?_
        cases hf
  · replace hf := me_in c6 hf
    refine me_iconst C (v := 0) dL_law_2044 (by decide) ?_
    cases hf

def f_case_30 (μ : me_M) (o : Int64 × UInt64) (s1 s2 s3 s4 s5 : Int32) : Option (me_M × (Int64 × UInt64)) :=
  me_b2 (f_L_fault μ o s1) (fun μ2 r1 =>
  me_b2 (f_M_fault μ2 s1) (fun μ4 r3 =>
  me_bd (f_M_thrown μ4) (fun r5 =>
  if r5 = (r1.2) then
  (if (r1.2) = 0 then
  (if (lg_cmp (r1.1.1) (Int32.toInt64 r3)) = 0 then
  (some (μ4, r1.1))
  else
  (none))
  else
  (some (μ4, r1.1)))
  else
  (none))))
set_option maxHeartbeats 4000000 in
set_option maxRecDepth 100000 in
theorem z_case_30 {X : me_X} {B : me_B} {μ : me_M} {b n : Nat} {xs : Nat → Int32} {i s1 s2 s3 s4 s5 : Int32} {nc ns : Nat} {ret0 : Option FieldType} (C : me_C X B RL cL_law 9 ret0) (hX : me_SX X b n xs) (hroom : me_Rm X 12 464 601024 7293034) (hB : me_St B) (h93 : ∀ i, i < B.2.1 93 → i = 0) (h94 : ∀ i, i < B.2.1 94 → i = 0) (h95 : B.2.1 95 = 0) (hn : nc + 16 ≤ 601024 ∧ ns + 128 ≤ 7293034) (h1 : me_inb (i + 1) n = true) (e1 : xs (me_ix (i + 1)) = s1) (h2 : me_inb (i + 2) n = true) (e2 : xs (me_ix (i + 2)) = s2) (h3 : me_inb (i + 3) n = true) (e3 : xs (me_ix (i + 3)) = s3) (h4 : me_inb (i + 4) n = true) (e4 : xs (me_ix (i + 4)) = s4) (h5 : me_inb (i + 5) n = true) (e5 : xs (me_ix (i + 5)) = s5) {μ' : me_M} {o' : Int64 × UInt64} (hf : f_case_30 μ B.2.2.2 s1 s2 s3 s4 s5 = some (μ', o')) (hK : me_Z X (me_ob B o') (nc + 16) (ns + 128) μ' 2789 [(0, .inl (.ref b)), (1, me_r 0 0), (2, me_r 36 0), (3, me_r 93 0), (4, me_r 94 0), (5, me_i i)] []) : me_Z X B nc ns μ 2066 [(0, .inl (.ref b)), (1, me_r 0 0), (2, me_r 36 0), (3, me_r 93 0), (4, me_r 94 0), (5, me_i i)] [] := by
  unfold f_case_30 at hf
  refine me_aload_n C 1 (Or.inr (Or.inl ⟨_, rfl⟩)) dL_law_2066 rfl rfl ?_
  refine me_aload_n C 0 (Or.inr (Or.inr ⟨_, rfl⟩)) dL_law_2067 rfl rfl ?_
  refine me_iload C dL_law_2068 rfl ?_
  refine me_iconst C (v := 1) dL_law_2070 (by decide) ?_
  refine me_iadd C dL_law_2071 ?_
  refine me_sld C hX h1 e1 dL_law_2072 ?_
  refine me_aload_n C 3 (Or.inr (Or.inl ⟨_, rfl⟩)) dL_law_2073 rfl rfl ?_
  obtain ⟨μ2, r1, h_r1, hf⟩ := me_bs2 hf
  refine me_callSH C hroom (n := 3) (As := [me_r 0 0, me_i s1, me_r 93 0]) (st := []) (nc + 2) (ns + 12) (c_L_fault hB h93 h_r1) mh_L_fault iL ⟨by decide +kernel, by decide +kernel⟩ (by decide +kernel) si_L_fault ml_L_256 dL_law_2074 rfl rfl ⟨by decide, by decide⟩ ⟨by omega, by omega, by omega, by omega⟩ (Nat.le_of_ble_eq_true rfl) ?_
  have hB := hB.ob r1.1
  have C := C.ob r1.1
  refine me_istore C dL_law_2077 (by decide) (L' := [(6, me_i (r1.2)), (0, .inl (.ref b)), (1, me_r 0 0), (2, me_r 36 0), (3, me_r 93 0), (4, me_r 94 0), (5, me_i i)]) rfl ?_
  refine me_aload_n C 2 (Or.inr (Or.inl ⟨_, rfl⟩)) dL_law_2079 rfl rfl ?_
  refine me_aload_n C 0 (Or.inr (Or.inr ⟨_, rfl⟩)) dL_law_2080 rfl rfl ?_
  refine me_iload C dL_law_2081 rfl ?_
  refine me_iconst C (v := 1) dL_law_2083 (by decide) ?_
  refine me_iadd C dL_law_2084 ?_
  refine me_sld C hX h1 e1 dL_law_2085 ?_
  obtain ⟨μ4, r3, h_r3, hf⟩ := me_bs2 hf
  refine me_callVR C hroom (As := [me_i s1]) (st := []) (nc + 2) (ns + 12) (c_M_fault hB h_r3) mv_M_fault ml_L_258 rfl rfl dL_law_2086 rfl rfl ⟨by decide, by decide⟩ ⟨by omega, by omega, by omega, by omega⟩ (Nat.le_of_ble_eq_true rfl) ?_
  refine me_istore C dL_law_2089 (by decide) (L' := [(7, me_i r3), (6, me_i (r1.2)), (0, .inl (.ref b)), (1, me_r 0 0), (2, me_r 36 0), (3, me_r 93 0), (4, me_r 94 0), (5, me_i i)]) rfl ?_
  refine me_aload_n C 2 (Or.inr (Or.inl ⟨_, rfl⟩)) dL_law_2091 rfl rfl ?_
  obtain ⟨r5, h_r5, hf⟩ := me_bs hf
  refine me_callVR C hroom (As := []) (st := []) (nc + 2) (ns + 12) (c_M_thrown hB h_r5) mv_M_thrown ml_L_154 rfl rfl dL_law_2092 rfl rfl ⟨by decide, by decide⟩ ⟨by omega, by omega, by omega, by omega⟩ (Nat.le_of_ble_eq_true rfl) ?_
  refine me_iload C dL_law_2095 rfl ?_
  refine me_icmp_eq C (tgt := 2102) dL_law_2097 (by decide) (fun c6 => ?_) (fun c6 => ?_)
  · replace hf := me_ip c6 hf
    refine me_iload C dL_law_2102 rfl ?_
    refine me_if_ne C (tgt := 2119) dL_law_2104 (by decide) (fun c7 => ?_) (fun c7 => ?_)
    · replace hf := me_in c7 hf
      refine me_goto C (tgt := 2789) dL_law_2119 (by decide) ?_
      cases hf
      refine me_wid (nc + 16) (ns + 128) (by omega) (by omega) ?_
      refine me_dropI [(0, .inl (.ref b)), (1, me_r 0 0), (2, me_r 36 0), (3, me_r 93 0), (4, me_r 94 0), (5, me_i i)] [2, 3, 4, 5, 6, 7] rfl ?_
      exact hK
    · replace hf := me_ip c7 hf
      refine me_aload_n C 3 (Or.inr (Or.inl ⟨_, rfl⟩)) dL_law_2107 rfl rfl ?_
      refine me_iconst C (v := 0) dL_law_2108 (by decide) ?_
      refine me_lald C dL_law_2109 ?_
      refine me_iload C dL_law_2110 rfl ?_
      refine me_i2l C dL_law_2112 ?_
      refine me_lcmp C dL_law_2113 ?_
      refine me_if_eq C (tgt := 2119) dL_law_2114 (by decide) (fun c8 => ?_) (fun c8 => ?_)
      · replace hf := me_ip c8 hf
        refine me_goto C (tgt := 2789) dL_law_2119 (by decide) ?_
        cases hf
        refine me_wid (nc + 16) (ns + 128) (by omega) (by omega) ?_
        refine me_dropI [(0, .inl (.ref b)), (1, me_r 0 0), (2, me_r 36 0), (3, me_r 93 0), (4, me_r 94 0), (5, me_i i)] [2, 3, 4, 5, 6, 7] rfl ?_
        exact hK
      · replace hf := me_in c8 hf
        refine me_iconst C (v := 0) dL_law_2117 (by decide) ?_
        cases hf
  · replace hf := me_in c6 hf
    refine me_iconst C (v := 0) dL_law_2100 (by decide) ?_
    cases hf

def f_case_31 (μ : me_M) (o : Int64 × UInt64) (s1 s2 s3 s4 s5 : Int32) : Option (me_M × (Int64 × UInt64)) :=
  me_b2 (f_L_memory μ o s1 s2) (fun μ2 r1 =>
  me_b2 (f_M_memory μ2 s1 s2) (fun μ4 r3 =>
  me_bd (f_M_thrown μ4) (fun r5 =>
  if r5 = (r1.2) then
  (if (r1.2) = 0 then
  (if (lg_cmp (r1.1.1) (Int32.toInt64 r3)) = 0 then
  (some (μ4, r1.1))
  else
  (none))
  else
  (some (μ4, r1.1)))
  else
  (none))))
set_option maxHeartbeats 4000000 in
set_option maxRecDepth 100000 in
theorem z_case_31 {X : me_X} {B : me_B} {μ : me_M} {b n : Nat} {xs : Nat → Int32} {i s1 s2 s3 s4 s5 : Int32} {nc ns : Nat} {ret0 : Option FieldType} (C : me_C X B RL cL_law 9 ret0) (hX : me_SX X b n xs) (hroom : me_Rm X 12 464 601024 7293034) (hB : me_St B) (h93 : ∀ i, i < B.2.1 93 → i = 0) (h94 : ∀ i, i < B.2.1 94 → i = 0) (h95 : B.2.1 95 = 0) (hn : nc + 16 ≤ 601024 ∧ ns + 128 ≤ 7293034) (h1 : me_inb (i + 1) n = true) (e1 : xs (me_ix (i + 1)) = s1) (h2 : me_inb (i + 2) n = true) (e2 : xs (me_ix (i + 2)) = s2) (h3 : me_inb (i + 3) n = true) (e3 : xs (me_ix (i + 3)) = s3) (h4 : me_inb (i + 4) n = true) (e4 : xs (me_ix (i + 4)) = s4) (h5 : me_inb (i + 5) n = true) (e5 : xs (me_ix (i + 5)) = s5) {μ' : me_M} {o' : Int64 × UInt64} (hf : f_case_31 μ B.2.2.2 s1 s2 s3 s4 s5 = some (μ', o')) (hK : me_Z X (me_ob B o') (nc + 16) (ns + 128) μ' 2789 [(0, .inl (.ref b)), (1, me_r 0 0), (2, me_r 36 0), (3, me_r 93 0), (4, me_r 94 0), (5, me_i i)] []) : me_Z X B nc ns μ 2122 [(0, .inl (.ref b)), (1, me_r 0 0), (2, me_r 36 0), (3, me_r 93 0), (4, me_r 94 0), (5, me_i i)] [] := by
  unfold f_case_31 at hf
  refine me_aload_n C 1 (Or.inr (Or.inl ⟨_, rfl⟩)) dL_law_2122 rfl rfl ?_
  refine me_aload_n C 0 (Or.inr (Or.inr ⟨_, rfl⟩)) dL_law_2123 rfl rfl ?_
  refine me_iload C dL_law_2124 rfl ?_
  refine me_iconst C (v := 1) dL_law_2126 (by decide) ?_
  refine me_iadd C dL_law_2127 ?_
  refine me_sld C hX h1 e1 dL_law_2128 ?_
  refine me_aload_n C 0 (Or.inr (Or.inr ⟨_, rfl⟩)) dL_law_2129 rfl rfl ?_
  refine me_iload C dL_law_2130 rfl ?_
  refine me_iconst C (v := 2) dL_law_2132 (by decide) ?_
  refine me_iadd C dL_law_2133 ?_
  refine me_sld C hX h2 e2 dL_law_2134 ?_
  refine me_aload_n C 3 (Or.inr (Or.inl ⟨_, rfl⟩)) dL_law_2135 rfl rfl ?_
  obtain ⟨μ2, r1, h_r1, hf⟩ := me_bs2 hf
  refine me_callSH C hroom (n := 4) (As := [me_r 0 0, me_i s1, me_i s2, me_r 93 0]) (st := []) (nc + 2) (ns + 12) (c_L_memory hB h93 h_r1) mh_L_memory iL ⟨by decide +kernel, by decide +kernel⟩ (by decide +kernel) si_L_memory ml_L_259 dL_law_2136 rfl rfl ⟨by decide, by decide⟩ ⟨by omega, by omega, by omega, by omega⟩ (Nat.le_of_ble_eq_true rfl) ?_
  have hB := hB.ob r1.1
  have C := C.ob r1.1
  refine me_istore C dL_law_2139 (by decide) (L' := [(6, me_i (r1.2)), (0, .inl (.ref b)), (1, me_r 0 0), (2, me_r 36 0), (3, me_r 93 0), (4, me_r 94 0), (5, me_i i)]) rfl ?_
  refine me_aload_n C 2 (Or.inr (Or.inl ⟨_, rfl⟩)) dL_law_2141 rfl rfl ?_
  refine me_aload_n C 0 (Or.inr (Or.inr ⟨_, rfl⟩)) dL_law_2142 rfl rfl ?_
  refine me_iload C dL_law_2143 rfl ?_
  refine me_iconst C (v := 1) dL_law_2145 (by decide) ?_
  refine me_iadd C dL_law_2146 ?_
  refine me_sld C hX h1 e1 dL_law_2147 ?_
  refine me_aload_n C 0 (Or.inr (Or.inr ⟨_, rfl⟩)) dL_law_2148 rfl rfl ?_
  refine me_iload C dL_law_2149 rfl ?_
  refine me_iconst C (v := 2) dL_law_2151 (by decide) ?_
  refine me_iadd C dL_law_2152 ?_
  refine me_sld C hX h2 e2 dL_law_2153 ?_
  obtain ⟨μ4, r3, h_r3, hf⟩ := me_bs2 hf
  refine me_callVR C hroom (As := [me_i s1, me_i s2]) (st := []) (nc + 2) (ns + 12) (c_M_memory hB h_r3) mv_M_memory ml_L_261 rfl rfl dL_law_2154 rfl rfl ⟨by decide, by decide⟩ ⟨by omega, by omega, by omega, by omega⟩ (Nat.le_of_ble_eq_true rfl) ?_
  refine me_istore C dL_law_2157 (by decide) (L' := [(7, me_i r3), (6, me_i (r1.2)), (0, .inl (.ref b)), (1, me_r 0 0), (2, me_r 36 0), (3, me_r 93 0), (4, me_r 94 0), (5, me_i i)]) rfl ?_
  refine me_aload_n C 2 (Or.inr (Or.inl ⟨_, rfl⟩)) dL_law_2159 rfl rfl ?_
  obtain ⟨r5, h_r5, hf⟩ := me_bs hf
  refine me_callVR C hroom (As := []) (st := []) (nc + 2) (ns + 12) (c_M_thrown hB h_r5) mv_M_thrown ml_L_154 rfl rfl dL_law_2160 rfl rfl ⟨by decide, by decide⟩ ⟨by omega, by omega, by omega, by omega⟩ (Nat.le_of_ble_eq_true rfl) ?_
  refine me_iload C dL_law_2163 rfl ?_
  refine me_icmp_eq C (tgt := 2170) dL_law_2165 (by decide) (fun c6 => ?_) (fun c6 => ?_)
  · replace hf := me_ip c6 hf
    refine me_iload C dL_law_2170 rfl ?_
    refine me_if_ne C (tgt := 2187) dL_law_2172 (by decide) (fun c7 => ?_) (fun c7 => ?_)
    · replace hf := me_in c7 hf
      refine me_goto C (tgt := 2789) dL_law_2187 (by decide) ?_
      cases hf
      refine me_wid (nc + 16) (ns + 128) (by omega) (by omega) ?_
      refine me_dropI [(0, .inl (.ref b)), (1, me_r 0 0), (2, me_r 36 0), (3, me_r 93 0), (4, me_r 94 0), (5, me_i i)] [2, 3, 4, 5, 6, 7] rfl ?_
      exact hK
    · replace hf := me_ip c7 hf
      refine me_aload_n C 3 (Or.inr (Or.inl ⟨_, rfl⟩)) dL_law_2175 rfl rfl ?_
      refine me_iconst C (v := 0) dL_law_2176 (by decide) ?_
      refine me_lald C dL_law_2177 ?_
      refine me_iload C dL_law_2178 rfl ?_
      refine me_i2l C dL_law_2180 ?_
      refine me_lcmp C dL_law_2181 ?_
      refine me_if_eq C (tgt := 2187) dL_law_2182 (by decide) (fun c8 => ?_) (fun c8 => ?_)
      · replace hf := me_ip c8 hf
        refine me_goto C (tgt := 2789) dL_law_2187 (by decide) ?_
        cases hf
        refine me_wid (nc + 16) (ns + 128) (by omega) (by omega) ?_
        refine me_dropI [(0, .inl (.ref b)), (1, me_r 0 0), (2, me_r 36 0), (3, me_r 93 0), (4, me_r 94 0), (5, me_i i)] [2, 3, 4, 5, 6, 7] rfl ?_
        exact hK
      · replace hf := me_in c8 hf
        refine me_iconst C (v := 0) dL_law_2185 (by decide) ?_
        cases hf
  · replace hf := me_in c6 hf
    refine me_iconst C (v := 0) dL_law_2168 (by decide) ?_
    cases hf

def f_case_32 (μ : me_M) (o : Int64 × UInt64) (s1 s2 s3 s4 s5 : Int32) : Option (me_M × (Int64 × UInt64)) :=
  me_b2 (f_L_set μ o s1 s2 s3) (fun μ2 r1 =>
  me_b2 (f_M_set μ2 s1 s2 s3) (fun μ4 r3 =>
  me_bd (f_M_thrown μ4) (fun r5 =>
  if r5 = (r1.2) then
  (if (r1.2) = 0 then
  (if (lg_cmp (r1.1.1) (Int32.toInt64 r3)) = 0 then
  (some (μ4, r1.1))
  else
  (none))
  else
  (some (μ4, r1.1)))
  else
  (none))))
set_option maxHeartbeats 4000000 in
set_option maxRecDepth 100000 in
theorem z_case_32 {X : me_X} {B : me_B} {μ : me_M} {b n : Nat} {xs : Nat → Int32} {i s1 s2 s3 s4 s5 : Int32} {nc ns : Nat} {ret0 : Option FieldType} (C : me_C X B RL cL_law 9 ret0) (hX : me_SX X b n xs) (hroom : me_Rm X 12 464 601024 7293034) (hB : me_St B) (h93 : ∀ i, i < B.2.1 93 → i = 0) (h94 : ∀ i, i < B.2.1 94 → i = 0) (h95 : B.2.1 95 = 0) (hn : nc + 16 ≤ 601024 ∧ ns + 128 ≤ 7293034) (h1 : me_inb (i + 1) n = true) (e1 : xs (me_ix (i + 1)) = s1) (h2 : me_inb (i + 2) n = true) (e2 : xs (me_ix (i + 2)) = s2) (h3 : me_inb (i + 3) n = true) (e3 : xs (me_ix (i + 3)) = s3) (h4 : me_inb (i + 4) n = true) (e4 : xs (me_ix (i + 4)) = s4) (h5 : me_inb (i + 5) n = true) (e5 : xs (me_ix (i + 5)) = s5) {μ' : me_M} {o' : Int64 × UInt64} (hf : f_case_32 μ B.2.2.2 s1 s2 s3 s4 s5 = some (μ', o')) (hK : me_Z X (me_ob B o') (nc + 16) (ns + 128) μ' 2789 [(0, .inl (.ref b)), (1, me_r 0 0), (2, me_r 36 0), (3, me_r 93 0), (4, me_r 94 0), (5, me_i i)] []) : me_Z X B nc ns μ 2190 [(0, .inl (.ref b)), (1, me_r 0 0), (2, me_r 36 0), (3, me_r 93 0), (4, me_r 94 0), (5, me_i i)] [] := by
  unfold f_case_32 at hf
  refine me_aload_n C 1 (Or.inr (Or.inl ⟨_, rfl⟩)) dL_law_2190 rfl rfl ?_
  refine me_aload_n C 0 (Or.inr (Or.inr ⟨_, rfl⟩)) dL_law_2191 rfl rfl ?_
  refine me_iload C dL_law_2192 rfl ?_
  refine me_iconst C (v := 1) dL_law_2194 (by decide) ?_
  refine me_iadd C dL_law_2195 ?_
  refine me_sld C hX h1 e1 dL_law_2196 ?_
  refine me_aload_n C 0 (Or.inr (Or.inr ⟨_, rfl⟩)) dL_law_2197 rfl rfl ?_
  refine me_iload C dL_law_2198 rfl ?_
  refine me_iconst C (v := 2) dL_law_2200 (by decide) ?_
  refine me_iadd C dL_law_2201 ?_
  refine me_sld C hX h2 e2 dL_law_2202 ?_
  refine me_aload_n C 0 (Or.inr (Or.inr ⟨_, rfl⟩)) dL_law_2203 rfl rfl ?_
  refine me_iload C dL_law_2204 rfl ?_
  refine me_iconst C (v := 3) dL_law_2206 (by decide) ?_
  refine me_iadd C dL_law_2207 ?_
  refine me_sld C hX h3 e3 dL_law_2208 ?_
  refine me_aload_n C 3 (Or.inr (Or.inl ⟨_, rfl⟩)) dL_law_2209 rfl rfl ?_
  obtain ⟨μ2, r1, h_r1, hf⟩ := me_bs2 hf
  refine me_callSH C hroom (n := 5) (As := [me_r 0 0, me_i s1, me_i s2, me_i s3, me_r 93 0]) (st := []) (nc + 2) (ns + 12) (c_L_set hB h93 h_r1) mh_L_set iL ⟨by decide +kernel, by decide +kernel⟩ (by decide +kernel) si_L_set ml_L_262 dL_law_2210 rfl rfl ⟨by decide, by decide⟩ ⟨by omega, by omega, by omega, by omega⟩ (Nat.le_of_ble_eq_true rfl) ?_
  have hB := hB.ob r1.1
  have C := C.ob r1.1
  refine me_istore C dL_law_2213 (by decide) (L' := [(6, me_i (r1.2)), (0, .inl (.ref b)), (1, me_r 0 0), (2, me_r 36 0), (3, me_r 93 0), (4, me_r 94 0), (5, me_i i)]) rfl ?_
  refine me_aload_n C 2 (Or.inr (Or.inl ⟨_, rfl⟩)) dL_law_2215 rfl rfl ?_
  refine me_aload_n C 0 (Or.inr (Or.inr ⟨_, rfl⟩)) dL_law_2216 rfl rfl ?_
  refine me_iload C dL_law_2217 rfl ?_
  refine me_iconst C (v := 1) dL_law_2219 (by decide) ?_
  refine me_iadd C dL_law_2220 ?_
  refine me_sld C hX h1 e1 dL_law_2221 ?_
  refine me_aload_n C 0 (Or.inr (Or.inr ⟨_, rfl⟩)) dL_law_2222 rfl rfl ?_
  refine me_iload C dL_law_2223 rfl ?_
  refine me_iconst C (v := 2) dL_law_2225 (by decide) ?_
  refine me_iadd C dL_law_2226 ?_
  refine me_sld C hX h2 e2 dL_law_2227 ?_
  refine me_aload_n C 0 (Or.inr (Or.inr ⟨_, rfl⟩)) dL_law_2228 rfl rfl ?_
  refine me_iload C dL_law_2229 rfl ?_
  refine me_iconst C (v := 3) dL_law_2231 (by decide) ?_
  refine me_iadd C dL_law_2232 ?_
  refine me_sld C hX h3 e3 dL_law_2233 ?_
  obtain ⟨μ4, r3, h_r3, hf⟩ := me_bs2 hf
  refine me_callVR C hroom (As := [me_i s1, me_i s2, me_i s3]) (st := []) (nc + 2) (ns + 12) (c_M_set hB h_r3) mv_M_set ml_L_264 rfl rfl dL_law_2234 rfl rfl ⟨by decide, by decide⟩ ⟨by omega, by omega, by omega, by omega⟩ (Nat.le_of_ble_eq_true rfl) ?_
  refine me_istore C dL_law_2237 (by decide) (L' := [(7, me_i r3), (6, me_i (r1.2)), (0, .inl (.ref b)), (1, me_r 0 0), (2, me_r 36 0), (3, me_r 93 0), (4, me_r 94 0), (5, me_i i)]) rfl ?_
  refine me_aload_n C 2 (Or.inr (Or.inl ⟨_, rfl⟩)) dL_law_2239 rfl rfl ?_
  obtain ⟨r5, h_r5, hf⟩ := me_bs hf
  refine me_callVR C hroom (As := []) (st := []) (nc + 2) (ns + 12) (c_M_thrown hB h_r5) mv_M_thrown ml_L_154 rfl rfl dL_law_2240 rfl rfl ⟨by decide, by decide⟩ ⟨by omega, by omega, by omega, by omega⟩ (Nat.le_of_ble_eq_true rfl) ?_
  refine me_iload C dL_law_2243 rfl ?_
  refine me_icmp_eq C (tgt := 2250) dL_law_2245 (by decide) (fun c6 => ?_) (fun c6 => ?_)
  · replace hf := me_ip c6 hf
    refine me_iload C dL_law_2250 rfl ?_
    refine me_if_ne C (tgt := 2267) dL_law_2252 (by decide) (fun c7 => ?_) (fun c7 => ?_)
    · replace hf := me_in c7 hf
      refine me_goto C (tgt := 2789) dL_law_2267 (by decide) ?_
      cases hf
      refine me_wid (nc + 16) (ns + 128) (by omega) (by omega) ?_
      refine me_dropI [(0, .inl (.ref b)), (1, me_r 0 0), (2, me_r 36 0), (3, me_r 93 0), (4, me_r 94 0), (5, me_i i)] [2, 3, 4, 5, 6, 7] rfl ?_
      exact hK
    · replace hf := me_ip c7 hf
      refine me_aload_n C 3 (Or.inr (Or.inl ⟨_, rfl⟩)) dL_law_2255 rfl rfl ?_
      refine me_iconst C (v := 0) dL_law_2256 (by decide) ?_
      refine me_lald C dL_law_2257 ?_
      refine me_iload C dL_law_2258 rfl ?_
      refine me_i2l C dL_law_2260 ?_
      refine me_lcmp C dL_law_2261 ?_
      refine me_if_eq C (tgt := 2267) dL_law_2262 (by decide) (fun c8 => ?_) (fun c8 => ?_)
      · replace hf := me_ip c8 hf
        refine me_goto C (tgt := 2789) dL_law_2267 (by decide) ?_
        cases hf
        refine me_wid (nc + 16) (ns + 128) (by omega) (by omega) ?_
        refine me_dropI [(0, .inl (.ref b)), (1, me_r 0 0), (2, me_r 36 0), (3, me_r 93 0), (4, me_r 94 0), (5, me_i i)] [2, 3, 4, 5, 6, 7] rfl ?_
        exact hK
      · replace hf := me_in c8 hf
        refine me_iconst C (v := 0) dL_law_2265 (by decide) ?_
        cases hf
  · replace hf := me_in c6 hf
    refine me_iconst C (v := 0) dL_law_2248 (by decide) ?_
    cases hf
