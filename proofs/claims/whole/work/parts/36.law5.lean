/-! words of the law's body (by program) -/
def DL_law : xD := (yL_law, cL_law, 7, some .boolean, [], 86)
theorem lk_L_106 : xLnk RL 106 yX9_init ∨ xNst RL 106 yX9_init := Or.inl (gdm 193 (by decide +kernel) rfl)
theorem cal_X9_init : xCal DX9_init 0 := ⟨rfl, gdm 195 (by decide +kernel) rfl, gdm 168 (by decide +kernel) rfl, (by decide +kernel), Nat.le_of_ble_eq_true rfl⟩
theorem ini_X9_init : xIni DX9_init := ⟨rfl, gdm 194 (by decide +kernel) rfl, rfl⟩
theorem lk_L_109 : xLnk RL 109 yX10_init ∨ xNst RL 109 yX10_init := Or.inl (gdm 1475 (by decide +kernel) rfl)
theorem cal_X10_init : xCal DX10_init 0 := ⟨rfl, gdm 1477 (by decide +kernel) rfl, gdm 178 (by decide +kernel) rfl, (by decide +kernel), Nat.le_of_ble_eq_true rfl⟩
theorem ini_X10_init : xIni DX10_init := ⟨rfl, gdm 1476 (by decide +kernel) rfl, rfl⟩
theorem lk_L_110 : xLnk RL 110 yX9_feed ∨ xNst RL 110 yX9_feed := Or.inl (gdm 542 (by decide +kernel) rfl)
theorem cal_X9_feed : xCal DX9_feed 5 := ⟨rfl, gdm 545 (by decide +kernel) rfl, gdm 168 (by decide +kernel) rfl, (by decide +kernel), Nat.le_of_ble_eq_true rfl⟩
theorem vir_X9_feed : xVir DX9_feed := ⟨gdm 543 (by decide +kernel) rfl, gdm 544 (by decide +kernel) rfl⟩
theorem lk_L_114 : xLnk RL 114 yX10_feed ∨ xNst RL 114 yX10_feed := Or.inl (gdm 1611 (by decide +kernel) rfl)
theorem cal_X10_feed : xCal DX10_feed 5 := ⟨rfl, gdm 1614 (by decide +kernel) rfl, gdm 178 (by decide +kernel) rfl, (by decide +kernel), Nat.le_of_ble_eq_true rfl⟩
theorem vir_X10_feed : xVir DX10_feed := ⟨gdm 1612 (by decide +kernel) rfl, gdm 1613 (by decide +kernel) rfl⟩
theorem lk_L_120 : xLnk RL 120 yX10_text ∨ xNst RL 120 yX10_text := Or.inl (gdm 1615 (by decide +kernel) rfl)
theorem cal_X10_text : xCal DX10_text 1 := ⟨rfl, gdm 1618 (by decide +kernel) rfl, gdm 178 (by decide +kernel) rfl, (by decide +kernel), Nat.le_of_ble_eq_true rfl⟩
theorem vir_X10_text : xVir DX10_text := ⟨gdm 1616 (by decide +kernel) rfl, gdm 1617 (by decide +kernel) rfl⟩
theorem lk_L_121 : xLnk RL 121 yX10_thrown ∨ xNst RL 121 yX10_thrown := Or.inl (gdm 1607 (by decide +kernel) rfl)
theorem cal_X10_thrown : xCal DX10_thrown 0 := ⟨rfl, gdm 1610 (by decide +kernel) rfl, gdm 178 (by decide +kernel) rfl, (by decide +kernel), Nat.le_of_ble_eq_true rfl⟩
theorem vir_X10_thrown : xVir DX10_thrown := ⟨gdm 1608 (by decide +kernel) rfl, gdm 1609 (by decide +kernel) rfl⟩
theorem lk_L_125 : xLnk RL 125 yX9_fault ∨ xNst RL 125 yX9_fault := Or.inl (gdm 554 (by decide +kernel) rfl)
theorem cal_X9_fault : xCal DX9_fault 0 := ⟨rfl, gdm 557 (by decide +kernel) rfl, gdm 168 (by decide +kernel) rfl, (by decide +kernel), Nat.le_of_ble_eq_true rfl⟩
theorem vir_X9_fault : xVir DX9_fault := ⟨gdm 555 (by decide +kernel) rfl, gdm 556 (by decide +kernel) rfl⟩
theorem lk_L_128 : xLnk RL 128 yX10_fault ∨ xNst RL 128 yX10_fault := Or.inl (gdm 1775 (by decide +kernel) rfl)
theorem cal_X10_fault : xCal DX10_fault 0 := ⟨rfl, gdm 1778 (by decide +kernel) rfl, gdm 178 (by decide +kernel) rfl, (by decide +kernel), Nat.le_of_ble_eq_true rfl⟩
theorem vir_X10_fault : xVir DX10_fault := ⟨gdm 1776 (by decide +kernel) rfl, gdm 1777 (by decide +kernel) rfl⟩
theorem lk_L_131 : xLnk RL 131 yX10_told ∨ xNst RL 131 yX10_told := Or.inl (gdm 1779 (by decide +kernel) rfl)
theorem cal_X10_told : xCal DX10_told 1 := ⟨rfl, gdm 1782 (by decide +kernel) rfl, gdm 178 (by decide +kernel) rfl, (by decide +kernel), Nat.le_of_ble_eq_true rfl⟩
theorem vir_X10_told : xVir DX10_told := ⟨gdm 1780 (by decide +kernel) rfl, gdm 1781 (by decide +kernel) rfl⟩
theorem lk_L_135 : xLnk RL 135 yX10_partner ∨ xNst RL 135 yX10_partner := Or.inl (gdm 1798 (by decide +kernel) rfl)
theorem cal_X10_partner : xCal DX10_partner 2 := ⟨rfl, gdm 1801 (by decide +kernel) rfl, gdm 178 (by decide +kernel) rfl, (by decide +kernel), Nat.le_of_ble_eq_true rfl⟩
theorem vir_X10_partner : xVir DX10_partner := ⟨gdm 1799 (by decide +kernel) rfl, gdm 1800 (by decide +kernel) rfl⟩
theorem lk_L_138 : xLnk RL 138 yX10_cost ∨ xNst RL 138 yX10_cost := Or.inl (gdm 1806 (by decide +kernel) rfl)
theorem cal_X10_cost : xCal DX10_cost 2 := ⟨rfl, gdm 1809 (by decide +kernel) rfl, gdm 178 (by decide +kernel) rfl, (by decide +kernel), Nat.le_of_ble_eq_true rfl⟩
theorem vir_X10_cost : xVir DX10_cost := ⟨gdm 1807 (by decide +kernel) rfl, gdm 1808 (by decide +kernel) rfl⟩
theorem lk_L_141 : xLnk RL 141 yX10_fits ∨ xNst RL 141 yX10_fits := Or.inl (gdm 1814 (by decide +kernel) rfl)
theorem cal_X10_fits : xCal DX10_fits 2 := ⟨rfl, gdm 1817 (by decide +kernel) rfl, gdm 178 (by decide +kernel) rfl, (by decide +kernel), Nat.le_of_ble_eq_true rfl⟩
theorem vir_X10_fits : xVir DX10_fits := ⟨gdm 1815 (by decide +kernel) rfl, gdm 1816 (by decide +kernel) rfl⟩
theorem lk_L_142 : xLnk RL 142 yX9_way ∨ xNst RL 142 yX9_way := Or.inl (gdm 558 (by decide +kernel) rfl)
theorem cal_X9_way : xCal DX9_way 0 := ⟨rfl, gdm 561 (by decide +kernel) rfl, gdm 168 (by decide +kernel) rfl, (by decide +kernel), Nat.le_of_ble_eq_true rfl⟩
theorem vir_X9_way : xVir DX9_way := ⟨gdm 559 (by decide +kernel) rfl, gdm 560 (by decide +kernel) rfl⟩
theorem lk_L_145 : xLnk RL 145 yX10_way ∨ xNst RL 145 yX10_way := Or.inl (gdm 1822 (by decide +kernel) rfl)
theorem cal_X10_way : xCal DX10_way 0 := ⟨rfl, gdm 1825 (by decide +kernel) rfl, gdm 178 (by decide +kernel) rfl, (by decide +kernel), Nat.le_of_ble_eq_true rfl⟩
theorem vir_X10_way : xVir DX10_way := ⟨gdm 1823 (by decide +kernel) rfl, gdm 1824 (by decide +kernel) rfl⟩
theorem lk_L_148 : xLnk RL 148 yX10_wayAt ∨ xNst RL 148 yX10_wayAt := Or.inl (gdm 1826 (by decide +kernel) rfl)
theorem cal_X10_wayAt : xCal DX10_wayAt 1 := ⟨rfl, gdm 1829 (by decide +kernel) rfl, gdm 178 (by decide +kernel) rfl, (by decide +kernel), Nat.le_of_ble_eq_true rfl⟩
theorem vir_X10_wayAt : xVir DX10_wayAt := ⟨gdm 1827 (by decide +kernel) rfl, gdm 1828 (by decide +kernel) rfl⟩
theorem lk_L_151 : xLnk RL 151 yX10_wayFrom ∨ xNst RL 151 yX10_wayFrom := Or.inl (gdm 1830 (by decide +kernel) rfl)
theorem cal_X10_wayFrom : xCal DX10_wayFrom 2 := ⟨rfl, gdm 1833 (by decide +kernel) rfl, gdm 178 (by decide +kernel) rfl, (by decide +kernel), Nat.le_of_ble_eq_true rfl⟩
theorem vir_X10_wayFrom : xVir DX10_wayFrom := ⟨gdm 1831 (by decide +kernel) rfl, gdm 1832 (by decide +kernel) rfl⟩
theorem lk_L_154 : xLnk RL 154 yX10_phases ∨ xNst RL 154 yX10_phases := Or.inl (gdm 1834 (by decide +kernel) rfl)
theorem cal_X10_phases : xCal DX10_phases 1 := ⟨rfl, gdm 1837 (by decide +kernel) rfl, gdm 178 (by decide +kernel) rfl, (by decide +kernel), Nat.le_of_ble_eq_true rfl⟩
theorem vir_X10_phases : xVir DX10_phases := ⟨gdm 1835 (by decide +kernel) rfl, gdm 1836 (by decide +kernel) rfl⟩
theorem lk_L_157 : xLnk RL 157 yX10_phased ∨ xNst RL 157 yX10_phased := Or.inl (gdm 1854 (by decide +kernel) rfl)
theorem cal_X10_phased : xCal DX10_phased 1 := ⟨rfl, gdm 1857 (by decide +kernel) rfl, gdm 178 (by decide +kernel) rfl, (by decide +kernel), Nat.le_of_ble_eq_true rfl⟩
theorem vir_X10_phased : xVir DX10_phased := ⟨gdm 1855 (by decide +kernel) rfl, gdm 1856 (by decide +kernel) rfl⟩
theorem lk_L_158 : xLnk RL 158 yX9_most ∨ xNst RL 158 yX9_most := Or.inl (gdm 609 (by decide +kernel) rfl)
theorem cal_X9_most : xCal DX9_most 0 := ⟨rfl, gdm 612 (by decide +kernel) rfl, gdm 168 (by decide +kernel) rfl, (by decide +kernel), Nat.le_of_ble_eq_true rfl⟩
theorem vir_X9_most : xVir DX9_most := ⟨gdm 610 (by decide +kernel) rfl, gdm 611 (by decide +kernel) rfl⟩
theorem lk_L_161 : xLnk RL 161 yX10_most ∨ xNst RL 161 yX10_most := Or.inl (gdm 1858 (by decide +kernel) rfl)
theorem cal_X10_most : xCal DX10_most 0 := ⟨rfl, gdm 1861 (by decide +kernel) rfl, gdm 178 (by decide +kernel) rfl, (by decide +kernel), Nat.le_of_ble_eq_true rfl⟩
theorem vir_X10_most : xVir DX10_most := ⟨gdm 1859 (by decide +kernel) rfl, gdm 1860 (by decide +kernel) rfl⟩
theorem lk_L_164 : xLnk RL 164 yX10_reached ∨ xNst RL 164 yX10_reached := Or.inl (gdm 1909 (by decide +kernel) rfl)
theorem cal_X10_reached : xCal DX10_reached 1 := ⟨rfl, gdm 1912 (by decide +kernel) rfl, gdm 178 (by decide +kernel) rfl, (by decide +kernel), Nat.le_of_ble_eq_true rfl⟩
theorem vir_X10_reached : xVir DX10_reached := ⟨gdm 1910 (by decide +kernel) rfl, gdm 1911 (by decide +kernel) rfl⟩
theorem lk_L_167 : xLnk RL 167 yX10_cover ∨ xNst RL 167 yX10_cover := Or.inl (gdm 1917 (by decide +kernel) rfl)
theorem cal_X10_cover : xCal DX10_cover 1 := ⟨rfl, gdm 1920 (by decide +kernel) rfl, gdm 178 (by decide +kernel) rfl, (by decide +kernel), Nat.le_of_ble_eq_true rfl⟩
theorem vir_X10_cover : xVir DX10_cover := ⟨gdm 1918 (by decide +kernel) rfl, gdm 1919 (by decide +kernel) rfl⟩
theorem lk_L_171 : xLnk RL 171 yX10_of ∨ xNst RL 171 yX10_of := Or.inl (gdm 1921 (by decide +kernel) rfl)
theorem cal_X10_of : xCal DX10_of 3 := ⟨rfl, gdm 1924 (by decide +kernel) rfl, gdm 178 (by decide +kernel) rfl, (by decide +kernel), Nat.le_of_ble_eq_true rfl⟩
theorem vir_X10_of : xVir DX10_of := ⟨gdm 1922 (by decide +kernel) rfl, gdm 1923 (by decide +kernel) rfl⟩
theorem lk_L_174 : xLnk RL 174 yX10_fit ∨ xNst RL 174 yX10_fit := Or.inl (gdm 1933 (by decide +kernel) rfl)
theorem cal_X10_fit : xCal DX10_fit 2 := ⟨rfl, gdm 1936 (by decide +kernel) rfl, gdm 178 (by decide +kernel) rfl, (by decide +kernel), Nat.le_of_ble_eq_true rfl⟩
theorem vir_X10_fit : xVir DX10_fit := ⟨gdm 1934 (by decide +kernel) rfl, gdm 1935 (by decide +kernel) rfl⟩
theorem lk_L_177 : xLnk RL 177 yX10_fitMany ∨ xNst RL 177 yX10_fitMany := Or.inl (gdm 1945 (by decide +kernel) rfl)
theorem cal_X10_fitMany : xCal DX10_fitMany 1 := ⟨rfl, gdm 1948 (by decide +kernel) rfl, gdm 178 (by decide +kernel) rfl, (by decide +kernel), Nat.le_of_ble_eq_true rfl⟩
theorem vir_X10_fitMany : xVir DX10_fitMany := ⟨gdm 1946 (by decide +kernel) rfl, gdm 1947 (by decide +kernel) rfl⟩
theorem lk_L_180 : xLnk RL 180 yX10_lack ∨ xNst RL 180 yX10_lack := Or.inl (gdm 1949 (by decide +kernel) rfl)
theorem cal_X10_lack : xCal DX10_lack 1 := ⟨rfl, gdm 1952 (by decide +kernel) rfl, gdm 178 (by decide +kernel) rfl, (by decide +kernel), Nat.le_of_ble_eq_true rfl⟩
theorem vir_X10_lack : xVir DX10_lack := ⟨gdm 1950 (by decide +kernel) rfl, gdm 1951 (by decide +kernel) rfl⟩
theorem lk_L_183 : xLnk RL 183 yX10_hall ∨ xNst RL 183 yX10_hall := Or.inl (gdm 1953 (by decide +kernel) rfl)
theorem cal_X10_hall : xCal DX10_hall 1 := ⟨rfl, gdm 1956 (by decide +kernel) rfl, gdm 178 (by decide +kernel) rfl, (by decide +kernel), Nat.le_of_ble_eq_true rfl⟩
theorem vir_X10_hall : xVir DX10_hall := ⟨gdm 1954 (by decide +kernel) rfl, gdm 1955 (by decide +kernel) rfl⟩
theorem lk_L_184 : xLnk RL 184 yX9_many ∨ xNst RL 184 yX9_many := Or.inl (gdm 649 (by decide +kernel) rfl)
theorem cal_X9_many : xCal DX9_many 0 := ⟨rfl, gdm 652 (by decide +kernel) rfl, gdm 168 (by decide +kernel) rfl, (by decide +kernel), Nat.le_of_ble_eq_true rfl⟩
theorem vir_X9_many : xVir DX9_many := ⟨gdm 650 (by decide +kernel) rfl, gdm 651 (by decide +kernel) rfl⟩
theorem lk_L_188 : xLnk RL 188 yX10_many ∨ xNst RL 188 yX10_many := Or.inl (gdm 1957 (by decide +kernel) rfl)
theorem cal_X10_many : xCal DX10_many 0 := ⟨rfl, gdm 1960 (by decide +kernel) rfl, gdm 178 (by decide +kernel) rfl, (by decide +kernel), Nat.le_of_ble_eq_true rfl⟩
theorem vir_X10_many : xVir DX10_many := ⟨gdm 1958 (by decide +kernel) rfl, gdm 1959 (by decide +kernel) rfl⟩
theorem lk_L_191 : xLnk RL 191 yX10_cheap ∨ xNst RL 191 yX10_cheap := Or.inl (gdm 1961 (by decide +kernel) rfl)
theorem cal_X10_cheap : xCal DX10_cheap 1 := ⟨rfl, gdm 1964 (by decide +kernel) rfl, gdm 178 (by decide +kernel) rfl, (by decide +kernel), Nat.le_of_ble_eq_true rfl⟩
theorem vir_X10_cheap : xVir DX10_cheap := ⟨gdm 1962 (by decide +kernel) rfl, gdm 1963 (by decide +kernel) rfl⟩
theorem lk_L_194 : xLnk RL 194 yX10_cheapest ∨ xNst RL 194 yX10_cheapest := Or.inl (gdm 1970 (by decide +kernel) rfl)
theorem cal_X10_cheapest : xCal DX10_cheapest 1 := ⟨rfl, gdm 1973 (by decide +kernel) rfl, gdm 178 (by decide +kernel) rfl, (by decide +kernel), Nat.le_of_ble_eq_true rfl⟩
theorem vir_X10_cheapest : xVir DX10_cheapest := ⟨gdm 1971 (by decide +kernel) rfl, gdm 1972 (by decide +kernel) rfl⟩
theorem lk_L_195 : xLnk RL 195 yX9_narrow ∨ xNst RL 195 yX9_narrow := Or.inl (gdm 692 (by decide +kernel) rfl)
theorem cal_X9_narrow : xCal DX9_narrow 0 := ⟨rfl, gdm 695 (by decide +kernel) rfl, gdm 168 (by decide +kernel) rfl, (by decide +kernel), Nat.le_of_ble_eq_true rfl⟩
theorem vir_X9_narrow : xVir DX9_narrow := ⟨gdm 693 (by decide +kernel) rfl, gdm 694 (by decide +kernel) rfl⟩
theorem lk_L_198 : xLnk RL 198 yX10_narrow ∨ xNst RL 198 yX10_narrow := Or.inl (gdm 1974 (by decide +kernel) rfl)
theorem cal_X10_narrow : xCal DX10_narrow 0 := ⟨rfl, gdm 1977 (by decide +kernel) rfl, gdm 178 (by decide +kernel) rfl, (by decide +kernel), Nat.le_of_ble_eq_true rfl⟩
theorem vir_X10_narrow : xVir DX10_narrow := ⟨gdm 1975 (by decide +kernel) rfl, gdm 1976 (by decide +kernel) rfl⟩
theorem lk_L_201 : xLnk RL 201 yX10_more_ ∨ xNst RL 201 yX10_more_ := Or.inl (gdm 1978 (by decide +kernel) rfl)
theorem cal_X10_more_ : xCal DX10_more_ 1 := ⟨rfl, gdm 1981 (by decide +kernel) rfl, gdm 178 (by decide +kernel) rfl, (by decide +kernel), Nat.le_of_ble_eq_true rfl⟩
theorem vir_X10_more_ : xVir DX10_more_ := ⟨gdm 1979 (by decide +kernel) rfl, gdm 1980 (by decide +kernel) rfl⟩
theorem lk_L_204 : xLnk RL 204 yX10_fewest ∨ xNst RL 204 yX10_fewest := Or.inl (gdm 1982 (by decide +kernel) rfl)
theorem cal_X10_fewest : xCal DX10_fewest 1 := ⟨rfl, gdm 1985 (by decide +kernel) rfl, gdm 178 (by decide +kernel) rfl, (by decide +kernel), Nat.le_of_ble_eq_true rfl⟩
theorem vir_X10_fewest : xVir DX10_fewest := ⟨gdm 1983 (by decide +kernel) rfl, gdm 1984 (by decide +kernel) rfl⟩
theorem lk_L_207 : xLnk RL 207 yX10_chosen ∨ xNst RL 207 yX10_chosen := Or.inl (gdm 1870 (by decide +kernel) rfl)
theorem cal_X10_chosen : xCal DX10_chosen 1 := ⟨rfl, gdm 1873 (by decide +kernel) rfl, gdm 178 (by decide +kernel) rfl, (by decide +kernel), Nat.le_of_ble_eq_true rfl⟩
theorem vir_X10_chosen : xVir DX10_chosen := ⟨gdm 1871 (by decide +kernel) rfl, gdm 1872 (by decide +kernel) rfl⟩
theorem lk_L_208 : xLnk RL 208 yX9_rounds ∨ xNst RL 208 yX9_rounds := Or.inl (gdm 710 (by decide +kernel) rfl)
theorem cal_X9_rounds : xCal DX9_rounds 0 := ⟨rfl, gdm 713 (by decide +kernel) rfl, gdm 168 (by decide +kernel) rfl, (by decide +kernel), Nat.le_of_ble_eq_true rfl⟩
theorem vir_X9_rounds : xVir DX9_rounds := ⟨gdm 711 (by decide +kernel) rfl, gdm 712 (by decide +kernel) rfl⟩
theorem lk_L_211 : xLnk RL 211 yX10_rounds ∨ xNst RL 211 yX10_rounds := Or.inl (gdm 1878 (by decide +kernel) rfl)
theorem cal_X10_rounds : xCal DX10_rounds 0 := ⟨rfl, gdm 1881 (by decide +kernel) rfl, gdm 178 (by decide +kernel) rfl, (by decide +kernel), Nat.le_of_ble_eq_true rfl⟩
theorem vir_X10_rounds : xVir DX10_rounds := ⟨gdm 1879 (by decide +kernel) rfl, gdm 1880 (by decide +kernel) rfl⟩
theorem lk_L_214 : xLnk RL 214 yX10_round ∨ xNst RL 214 yX10_round := Or.inl (gdm 1905 (by decide +kernel) rfl)
theorem cal_X10_round : xCal DX10_round 2 := ⟨rfl, gdm 1908 (by decide +kernel) rfl, gdm 178 (by decide +kernel) rfl, (by decide +kernel), Nat.le_of_ble_eq_true rfl⟩
theorem vir_X10_round : xVir DX10_round := ⟨gdm 1906 (by decide +kernel) rfl, gdm 1907 (by decide +kernel) rfl⟩
theorem lk_L_217 : xLnk RL 217 yX10_add ∨ xNst RL 217 yX10_add := Or.inl (gdm 1990 (by decide +kernel) rfl)
theorem cal_X10_add : xCal DX10_add 3 := ⟨rfl, gdm 1993 (by decide +kernel) rfl, gdm 178 (by decide +kernel) rfl, (by decide +kernel), Nat.le_of_ble_eq_true rfl⟩
theorem vir_X10_add : xVir DX10_add := ⟨gdm 1991 (by decide +kernel) rfl, gdm 1992 (by decide +kernel) rfl⟩
theorem lk_L_220 : xLnk RL 220 yX10_drop ∨ xNst RL 220 yX10_drop := Or.inl (gdm 1998 (by decide +kernel) rfl)
theorem cal_X10_drop : xCal DX10_drop 2 := ⟨rfl, gdm 2001 (by decide +kernel) rfl, gdm 178 (by decide +kernel) rfl, (by decide +kernel), Nat.le_of_ble_eq_true rfl⟩
theorem vir_X10_drop : xVir DX10_drop := ⟨gdm 1999 (by decide +kernel) rfl, gdm 2000 (by decide +kernel) rfl⟩
theorem lk_L_223 : xLnk RL 223 yX10_is ∨ xNst RL 223 yX10_is := Or.inl (gdm 2002 (by decide +kernel) rfl)
theorem cal_X10_is : xCal DX10_is 3 := ⟨rfl, gdm 2005 (by decide +kernel) rfl, gdm 178 (by decide +kernel) rfl, (by decide +kernel), Nat.le_of_ble_eq_true rfl⟩
theorem vir_X10_is : xVir DX10_is := ⟨gdm 2003 (by decide +kernel) rfl, gdm 2004 (by decide +kernel) rfl⟩
theorem lk_L_226 : xLnk RL 226 yX10_pair ∨ xNst RL 226 yX10_pair := Or.inl (gdm 2010 (by decide +kernel) rfl)
theorem cal_X10_pair : xCal DX10_pair 2 := ⟨rfl, gdm 2013 (by decide +kernel) rfl, gdm 178 (by decide +kernel) rfl, (by decide +kernel), Nat.le_of_ble_eq_true rfl⟩
theorem vir_X10_pair : xVir DX10_pair := ⟨gdm 2011 (by decide +kernel) rfl, gdm 2012 (by decide +kernel) rfl⟩
theorem lk_L_229 : xLnk RL 229 yX10_part ∨ xNst RL 229 yX10_part := Or.inl (gdm 2014 (by decide +kernel) rfl)
theorem cal_X10_part : xCal DX10_part 1 := ⟨rfl, gdm 2017 (by decide +kernel) rfl, gdm 178 (by decide +kernel) rfl, (by decide +kernel), Nat.le_of_ble_eq_true rfl⟩
theorem vir_X10_part : xVir DX10_part := ⟨gdm 2015 (by decide +kernel) rfl, gdm 2016 (by decide +kernel) rfl⟩
theorem lk_L_232 : xLnk RL 232 yX10_weight ∨ xNst RL 232 yX10_weight := Or.inl (gdm 2022 (by decide +kernel) rfl)
theorem cal_X10_weight : xCal DX10_weight 2 := ⟨rfl, gdm 2025 (by decide +kernel) rfl, gdm 178 (by decide +kernel) rfl, (by decide +kernel), Nat.le_of_ble_eq_true rfl⟩
theorem vir_X10_weight : xVir DX10_weight := ⟨gdm 2023 (by decide +kernel) rfl, gdm 2024 (by decide +kernel) rfl⟩
theorem lk_L_233 : xLnk RL 233 yX9_trade ∨ xNst RL 233 yX9_trade := Or.inl (gdm 765 (by decide +kernel) rfl)
theorem cal_X9_trade : xCal DX9_trade 0 := ⟨rfl, gdm 768 (by decide +kernel) rfl, gdm 168 (by decide +kernel) rfl, (by decide +kernel), Nat.le_of_ble_eq_true rfl⟩
theorem vir_X9_trade : xVir DX9_trade := ⟨gdm 766 (by decide +kernel) rfl, gdm 767 (by decide +kernel) rfl⟩
theorem lk_L_236 : xLnk RL 236 yX10_trade ∨ xNst RL 236 yX10_trade := Or.inl (gdm 2026 (by decide +kernel) rfl)
theorem cal_X10_trade : xCal DX10_trade 0 := ⟨rfl, gdm 2029 (by decide +kernel) rfl, gdm 178 (by decide +kernel) rfl, (by decide +kernel), Nat.le_of_ble_eq_true rfl⟩
theorem vir_X10_trade : xVir DX10_trade := ⟨gdm 2027 (by decide +kernel) rfl, gdm 2028 (by decide +kernel) rfl⟩
theorem lk_L_239 : xLnk RL 239 yX10_keep ∨ xNst RL 239 yX10_keep := Or.inl (gdm 2018 (by decide +kernel) rfl)
theorem cal_X10_keep : xCal DX10_keep 1 := ⟨rfl, gdm 2021 (by decide +kernel) rfl, gdm 178 (by decide +kernel) rfl, (by decide +kernel), Nat.le_of_ble_eq_true rfl⟩
theorem vir_X10_keep : xVir DX10_keep := ⟨gdm 2019 (by decide +kernel) rfl, gdm 2020 (by decide +kernel) rfl⟩
theorem lk_L_242 : xLnk RL 242 yX10_settle ∨ xNst RL 242 yX10_settle := Or.inl (gdm 2034 (by decide +kernel) rfl)
theorem cal_X10_settle : xCal DX10_settle 1 := ⟨rfl, gdm 2037 (by decide +kernel) rfl, gdm 178 (by decide +kernel) rfl, (by decide +kernel), Nat.le_of_ble_eq_true rfl⟩
theorem vir_X10_settle : xVir DX10_settle := ⟨gdm 2035 (by decide +kernel) rfl, gdm 2036 (by decide +kernel) rfl⟩
theorem lk_L_243 : xLnk RL 243 yX9_undo ∨ xNst RL 243 yX9_undo := Or.inl (gdm 801 (by decide +kernel) rfl)
theorem cal_X9_undo : xCal DX9_undo 0 := ⟨rfl, gdm 804 (by decide +kernel) rfl, gdm 168 (by decide +kernel) rfl, (by decide +kernel), Nat.le_of_ble_eq_true rfl⟩
theorem vir_X9_undo : xVir DX9_undo := ⟨gdm 802 (by decide +kernel) rfl, gdm 803 (by decide +kernel) rfl⟩
theorem lk_L_246 : xLnk RL 246 yX10_undo ∨ xNst RL 246 yX10_undo := Or.inl (gdm 2038 (by decide +kernel) rfl)
theorem cal_X10_undo : xCal DX10_undo 0 := ⟨rfl, gdm 2041 (by decide +kernel) rfl, gdm 178 (by decide +kernel) rfl, (by decide +kernel), Nat.le_of_ble_eq_true rfl⟩
theorem vir_X10_undo : xVir DX10_undo := ⟨gdm 2039 (by decide +kernel) rfl, gdm 2040 (by decide +kernel) rfl⟩
theorem lk_L_247 : xLnk RL 247 yX9_print ∨ xNst RL 247 yX9_print := Or.inl (gdm 809 (by decide +kernel) rfl)
theorem cal_X9_print : xCal DX9_print 0 := ⟨rfl, gdm 812 (by decide +kernel) rfl, gdm 168 (by decide +kernel) rfl, (by decide +kernel), Nat.le_of_ble_eq_true rfl⟩
theorem vir_X9_print : xVir DX9_print := ⟨gdm 810 (by decide +kernel) rfl, gdm 811 (by decide +kernel) rfl⟩
theorem lk_L_250 : xLnk RL 250 yX10_print ∨ xNst RL 250 yX10_print := Or.inl (gdm 2042 (by decide +kernel) rfl)
theorem cal_X10_print : xCal DX10_print 0 := ⟨rfl, gdm 2045 (by decide +kernel) rfl, gdm 178 (by decide +kernel) rfl, (by decide +kernel), Nat.le_of_ble_eq_true rfl⟩
theorem vir_X10_print : xVir DX10_print := ⟨gdm 2043 (by decide +kernel) rfl, gdm 2044 (by decide +kernel) rfl⟩
theorem lk_L_251 : xLnk RL 251 yX9_status ∨ xNst RL 251 yX9_status := Or.inl (gdm 815 (by decide +kernel) rfl)
theorem cal_X9_status : xCal DX9_status 1 := ⟨rfl, gdm 818 (by decide +kernel) rfl, gdm 168 (by decide +kernel) rfl, (by decide +kernel), Nat.le_of_ble_eq_true rfl⟩
theorem vir_X9_status : xVir DX9_status := ⟨gdm 816 (by decide +kernel) rfl, gdm 817 (by decide +kernel) rfl⟩
theorem lk_L_254 : xLnk RL 254 yX10_status ∨ xNst RL 254 yX10_status := Or.inl (gdm 2047 (by decide +kernel) rfl)
theorem cal_X10_status : xCal DX10_status 1 := ⟨rfl, gdm 2050 (by decide +kernel) rfl, gdm 178 (by decide +kernel) rfl, (by decide +kernel), Nat.le_of_ble_eq_true rfl⟩
theorem vir_X10_status : xVir DX10_status := ⟨gdm 2048 (by decide +kernel) rfl, gdm 2049 (by decide +kernel) rfl⟩
theorem wn_L_8 : xNew RL 8 9 dv_X9 := ⟨RX9, TX9, 12, tyX9, kc_X9, gdm 191 (by decide +kernel) rfl, gdm 192 (by decide +kernel) rfl, gdm 168 (by decide +kernel) rfl, fun j hj => (match j, hj with
  | 0, _ => rfl
  | 1, _ => rfl
  | 2, _ => rfl
  | 3, _ => rfl
  | 4, _ => rfl
  | 5, _ => rfl
  | 6, _ => rfl
  | 7, _ => rfl
  | 8, _ => rfl
  | 9, _ => rfl
  | 10, _ => rfl
  | 11, _ => rfl
  | j + 12, hj => absurd hj (Nat.not_lt.mpr (Nat.le_add_left 12 j))), rfl⟩
theorem wn_L_107 : xNew RL 107 10 dv_X10 := ⟨RX10, TX10, 39, tyX10, kc_X10, gdm 1473 (by decide +kernel) rfl, gdm 1474 (by decide +kernel) rfl, gdm 178 (by decide +kernel) rfl, fun j hj => (match j, hj with
  | 0, _ => rfl
  | 1, _ => rfl
  | 2, _ => rfl
  | 3, _ => rfl
  | 4, _ => rfl
  | 5, _ => rfl
  | 6, _ => rfl
  | 7, _ => rfl
  | 8, _ => rfl
  | 9, _ => rfl
  | 10, _ => rfl
  | 11, _ => rfl
  | 12, _ => rfl
  | 13, _ => rfl
  | 14, _ => rfl
  | 15, _ => rfl
  | 16, _ => rfl
  | 17, _ => rfl
  | 18, _ => rfl
  | 19, _ => rfl
  | 20, _ => rfl
  | 21, _ => rfl
  | 22, _ => rfl
  | 23, _ => rfl
  | 24, _ => rfl
  | 25, _ => rfl
  | 26, _ => rfl
  | 27, _ => rfl
  | 28, _ => rfl
  | 29, _ => rfl
  | 30, _ => rfl
  | 31, _ => rfl
  | 32, _ => rfl
  | 33, _ => rfl
  | 34, _ => rfl
  | 35, _ => rfl
  | 36, _ => rfl
  | 37, _ => rfl
  | 38, _ => rfl
  | j + 39, hj => absurd hj (Nat.not_lt.mpr (Nat.le_add_left 39 j))), rfl⟩
theorem dL_law_0 : decode (dc DL_law) 0 = .ok (.new 8, 3) := by decide +kernel
theorem dL_law_3 : decode (dc DL_law) 3 = .ok (.dup, 1) := by decide +kernel
theorem dL_law_4 : decode (dc DL_law) 4 = .ok (.invokespecial 106, 3) := by decide +kernel
theorem dL_law_7 : decode (dc DL_law) 7 = .ok (.astore_n 1, 1) := by decide +kernel
theorem dL_law_8 : decode (dc DL_law) 8 = .ok (.new 107, 3) := by decide +kernel
theorem dL_law_11 : decode (dc DL_law) 11 = .ok (.dup, 1) := by decide +kernel
theorem dL_law_12 : decode (dc DL_law) 12 = .ok (.invokespecial 109, 3) := by decide +kernel
theorem dL_law_15 : decode (dc DL_law) 15 = .ok (.astore_n 2, 1) := by decide +kernel
theorem dL_law_16 : decode (dc DL_law) 16 = .ok (.iconst 1, 1) := by decide +kernel
theorem dL_law_17 : decode (dc DL_law) 17 = .ok (.newarray .long, 2) := by decide +kernel
theorem dL_law_19 : decode (dc DL_law) 19 = .ok (.astore_n 3, 1) := by decide +kernel
theorem dL_law_20 : decode (dc DL_law) 20 = .ok (.iconst 0, 1) := by decide +kernel
theorem dL_law_21 : decode (dc DL_law) 21 = .ok (.istore 4, 2) := by decide +kernel
theorem dL_law_23 : decode (dc DL_law) 23 = .ok (.iload 4, 2) := by decide +kernel
theorem dL_law_25 : decode (dc DL_law) 25 = .ok (.aload_n 0, 1) := by decide +kernel
theorem dL_law_26 : decode (dc DL_law) 26 = .ok (.arraylength, 1) := by decide +kernel
theorem dL_law_27 : decode (dc DL_law) 27 = .ok (.bipush 6, 2) := by decide +kernel
theorem dL_law_29 : decode (dc DL_law) 29 = .ok (.isub, 1) := by decide +kernel
theorem dL_law_30 : decode (dc DL_law) 30 = .ok (.if_icmp .gt 2273, 3) := by decide +kernel
theorem dL_law_33 : decode (dc DL_law) 33 = .ok (.aload_n 0, 1) := by decide +kernel
theorem dL_law_34 : decode (dc DL_law) 34 = .ok (.iload 4, 2) := by decide +kernel
theorem dL_law_36 : decode (dc DL_law) 36 = .ok (.iaload, 1) := by decide +kernel
theorem dL_law_37 : decode (dc DL_law) 37 = .ok (.bipush 63, 2) := by decide +kernel
theorem dL_law_39 : decode (dc DL_law) 39 = .ok (.iand, 1) := by decide +kernel
theorem dL_law_40 : decode (dc DL_law) 40 = .ok (.tableswitch 2257 0 40 #[180, 253, 309, 322, 378, 446, 514, 582, 595, 651, 719, 775, 831, 844, 900, 956, 1036, 1104, 1160, 1216, 1272, 1286, 1342, 1398, 1411, 1467, 1523, 1579, 1592, 1660, 1740, 1808, 1888, 1956, 2012, 2080, 2093, 2149, 2205, 2218, 2232], 180) := by decide +kernel
theorem dL_law_220 : decode (dc DL_law) 220 = .ok (.aload_n 1, 1) := by decide +kernel
theorem dL_law_221 : decode (dc DL_law) 221 = .ok (.aload_n 0, 1) := by decide +kernel
theorem dL_law_222 : decode (dc DL_law) 222 = .ok (.iload 4, 2) := by decide +kernel
theorem dL_law_224 : decode (dc DL_law) 224 = .ok (.iconst 1, 1) := by decide +kernel
theorem dL_law_225 : decode (dc DL_law) 225 = .ok (.iadd, 1) := by decide +kernel
theorem dL_law_226 : decode (dc DL_law) 226 = .ok (.iaload, 1) := by decide +kernel
theorem dL_law_227 : decode (dc DL_law) 227 = .ok (.aload_n 0, 1) := by decide +kernel
theorem dL_law_228 : decode (dc DL_law) 228 = .ok (.iload 4, 2) := by decide +kernel
theorem dL_law_230 : decode (dc DL_law) 230 = .ok (.iconst 2, 1) := by decide +kernel
theorem dL_law_231 : decode (dc DL_law) 231 = .ok (.iadd, 1) := by decide +kernel
theorem dL_law_232 : decode (dc DL_law) 232 = .ok (.iaload, 1) := by decide +kernel
theorem dL_law_233 : decode (dc DL_law) 233 = .ok (.aload_n 0, 1) := by decide +kernel
theorem dL_law_234 : decode (dc DL_law) 234 = .ok (.iload 4, 2) := by decide +kernel
theorem dL_law_236 : decode (dc DL_law) 236 = .ok (.iconst 3, 1) := by decide +kernel
theorem dL_law_237 : decode (dc DL_law) 237 = .ok (.iadd, 1) := by decide +kernel
theorem dL_law_238 : decode (dc DL_law) 238 = .ok (.iaload, 1) := by decide +kernel
theorem dL_law_239 : decode (dc DL_law) 239 = .ok (.aload_n 0, 1) := by decide +kernel
theorem dL_law_240 : decode (dc DL_law) 240 = .ok (.iload 4, 2) := by decide +kernel
theorem dL_law_242 : decode (dc DL_law) 242 = .ok (.iconst 4, 1) := by decide +kernel
theorem dL_law_243 : decode (dc DL_law) 243 = .ok (.iadd, 1) := by decide +kernel
theorem dL_law_244 : decode (dc DL_law) 244 = .ok (.iaload, 1) := by decide +kernel
theorem dL_law_245 : decode (dc DL_law) 245 = .ok (.aload_n 0, 1) := by decide +kernel
theorem dL_law_246 : decode (dc DL_law) 246 = .ok (.iload 4, 2) := by decide +kernel
theorem dL_law_248 : decode (dc DL_law) 248 = .ok (.iconst 5, 1) := by decide +kernel
theorem dL_law_249 : decode (dc DL_law) 249 = .ok (.iadd, 1) := by decide +kernel
theorem dL_law_250 : decode (dc DL_law) 250 = .ok (.iaload, 1) := by decide +kernel
theorem dL_law_251 : decode (dc DL_law) 251 = .ok (.invokevirtual 110, 3) := by decide +kernel
theorem dL_law_254 : decode (dc DL_law) 254 = .ok (.aload_n 2, 1) := by decide +kernel
theorem dL_law_255 : decode (dc DL_law) 255 = .ok (.aload_n 0, 1) := by decide +kernel
theorem dL_law_256 : decode (dc DL_law) 256 = .ok (.iload 4, 2) := by decide +kernel
theorem dL_law_258 : decode (dc DL_law) 258 = .ok (.iconst 1, 1) := by decide +kernel
theorem dL_law_259 : decode (dc DL_law) 259 = .ok (.iadd, 1) := by decide +kernel
theorem dL_law_260 : decode (dc DL_law) 260 = .ok (.iaload, 1) := by decide +kernel
theorem dL_law_261 : decode (dc DL_law) 261 = .ok (.aload_n 0, 1) := by decide +kernel
theorem dL_law_262 : decode (dc DL_law) 262 = .ok (.iload 4, 2) := by decide +kernel
theorem dL_law_264 : decode (dc DL_law) 264 = .ok (.iconst 2, 1) := by decide +kernel
theorem dL_law_265 : decode (dc DL_law) 265 = .ok (.iadd, 1) := by decide +kernel
theorem dL_law_266 : decode (dc DL_law) 266 = .ok (.iaload, 1) := by decide +kernel
theorem dL_law_267 : decode (dc DL_law) 267 = .ok (.aload_n 0, 1) := by decide +kernel
theorem dL_law_268 : decode (dc DL_law) 268 = .ok (.iload 4, 2) := by decide +kernel
theorem dL_law_270 : decode (dc DL_law) 270 = .ok (.iconst 3, 1) := by decide +kernel
theorem dL_law_271 : decode (dc DL_law) 271 = .ok (.iadd, 1) := by decide +kernel
theorem dL_law_272 : decode (dc DL_law) 272 = .ok (.iaload, 1) := by decide +kernel
theorem dL_law_273 : decode (dc DL_law) 273 = .ok (.aload_n 0, 1) := by decide +kernel
theorem dL_law_274 : decode (dc DL_law) 274 = .ok (.iload 4, 2) := by decide +kernel
theorem dL_law_276 : decode (dc DL_law) 276 = .ok (.iconst 4, 1) := by decide +kernel
theorem dL_law_277 : decode (dc DL_law) 277 = .ok (.iadd, 1) := by decide +kernel
theorem dL_law_278 : decode (dc DL_law) 278 = .ok (.iaload, 1) := by decide +kernel
theorem dL_law_279 : decode (dc DL_law) 279 = .ok (.aload_n 0, 1) := by decide +kernel
theorem dL_law_280 : decode (dc DL_law) 280 = .ok (.iload 4, 2) := by decide +kernel
theorem dL_law_282 : decode (dc DL_law) 282 = .ok (.iconst 5, 1) := by decide +kernel
theorem dL_law_283 : decode (dc DL_law) 283 = .ok (.iadd, 1) := by decide +kernel
theorem dL_law_284 : decode (dc DL_law) 284 = .ok (.iaload, 1) := by decide +kernel
theorem dL_law_285 : decode (dc DL_law) 285 = .ok (.invokevirtual 114, 3) := by decide +kernel
theorem dL_law_288 : decode (dc DL_law) 288 = .ok (.if_icmp .eq 2009, 3) := by decide +kernel
theorem dL_law_291 : decode (dc DL_law) 291 = .ok (.iconst 0, 1) := by decide +kernel
theorem dL_law_292 : decode (dc DL_law) 292 = .ok (.ireturn, 1) := by decide +kernel
theorem dL_law_293 : decode (dc DL_law) 293 = .ok (.aload_n 1, 1) := by decide +kernel
theorem dL_law_294 : decode (dc DL_law) 294 = .ok (.aload_n 0, 1) := by decide +kernel
theorem dL_law_295 : decode (dc DL_law) 295 = .ok (.iload 4, 2) := by decide +kernel
theorem dL_law_297 : decode (dc DL_law) 297 = .ok (.iconst 1, 1) := by decide +kernel
theorem dL_law_298 : decode (dc DL_law) 298 = .ok (.iadd, 1) := by decide +kernel
theorem dL_law_299 : decode (dc DL_law) 299 = .ok (.iaload, 1) := by decide +kernel
theorem dL_law_300 : decode (dc DL_law) 300 = .ok (.aload_n 3, 1) := by decide +kernel
theorem dL_law_301 : decode (dc DL_law) 301 = .ok (.invokestatic 115, 3) := by decide +kernel
theorem dL_law_304 : decode (dc DL_law) 304 = .ok (.istore 5, 2) := by decide +kernel
theorem dL_law_306 : decode (dc DL_law) 306 = .ok (.aload_n 2, 1) := by decide +kernel
theorem dL_law_307 : decode (dc DL_law) 307 = .ok (.aload_n 0, 1) := by decide +kernel
theorem dL_law_308 : decode (dc DL_law) 308 = .ok (.iload 4, 2) := by decide +kernel
theorem dL_law_310 : decode (dc DL_law) 310 = .ok (.iconst 1, 1) := by decide +kernel
theorem dL_law_311 : decode (dc DL_law) 311 = .ok (.iadd, 1) := by decide +kernel
theorem dL_law_312 : decode (dc DL_law) 312 = .ok (.iaload, 1) := by decide +kernel
theorem dL_law_313 : decode (dc DL_law) 313 = .ok (.invokevirtual 120, 3) := by decide +kernel
theorem dL_law_316 : decode (dc DL_law) 316 = .ok (.istore 6, 2) := by decide +kernel
theorem dL_law_318 : decode (dc DL_law) 318 = .ok (.aload_n 2, 1) := by decide +kernel
theorem dL_law_319 : decode (dc DL_law) 319 = .ok (.invokevirtual 121, 3) := by decide +kernel
theorem dL_law_322 : decode (dc DL_law) 322 = .ok (.iload 5, 2) := by decide +kernel
theorem dL_law_324 : decode (dc DL_law) 324 = .ok (.if_icmp .eq 5, 3) := by decide +kernel
theorem dL_law_327 : decode (dc DL_law) 327 = .ok (.iconst 0, 1) := by decide +kernel
theorem dL_law_328 : decode (dc DL_law) 328 = .ok (.ireturn, 1) := by decide +kernel
theorem dL_law_329 : decode (dc DL_law) 329 = .ok (.iload 5, 2) := by decide +kernel
theorem dL_law_331 : decode (dc DL_law) 331 = .ok (.ifCond .ne 15, 3) := by decide +kernel
theorem dL_law_334 : decode (dc DL_law) 334 = .ok (.aload_n 3, 1) := by decide +kernel
theorem dL_law_335 : decode (dc DL_law) 335 = .ok (.iconst 0, 1) := by decide +kernel
theorem dL_law_336 : decode (dc DL_law) 336 = .ok (.laload, 1) := by decide +kernel
theorem dL_law_337 : decode (dc DL_law) 337 = .ok (.iload 6, 2) := by decide +kernel
theorem dL_law_339 : decode (dc DL_law) 339 = .ok (.i2l, 1) := by decide +kernel
theorem dL_law_340 : decode (dc DL_law) 340 = .ok (.lcmp, 1) := by decide +kernel
theorem dL_law_341 : decode (dc DL_law) 341 = .ok (.ifCond .eq 5, 3) := by decide +kernel
theorem dL_law_344 : decode (dc DL_law) 344 = .ok (.iconst 0, 1) := by decide +kernel
theorem dL_law_345 : decode (dc DL_law) 345 = .ok (.ireturn, 1) := by decide +kernel
theorem dL_law_346 : decode (dc DL_law) 346 = .ok (.goto 1951, 3) := by decide +kernel
theorem dL_law_349 : decode (dc DL_law) 349 = .ok (.aload_n 1, 1) := by decide +kernel
theorem dL_law_350 : decode (dc DL_law) 350 = .ok (.invokevirtual 125, 3) := by decide +kernel
theorem dL_law_353 : decode (dc DL_law) 353 = .ok (.aload_n 2, 1) := by decide +kernel
theorem dL_law_354 : decode (dc DL_law) 354 = .ok (.invokevirtual 128, 3) := by decide +kernel
theorem dL_law_357 : decode (dc DL_law) 357 = .ok (.if_icmp .eq 1940, 3) := by decide +kernel
theorem dL_law_360 : decode (dc DL_law) 360 = .ok (.iconst 0, 1) := by decide +kernel
theorem dL_law_361 : decode (dc DL_law) 361 = .ok (.ireturn, 1) := by decide +kernel
theorem dL_law_362 : decode (dc DL_law) 362 = .ok (.aload_n 1, 1) := by decide +kernel
theorem dL_law_363 : decode (dc DL_law) 363 = .ok (.aload_n 0, 1) := by decide +kernel
theorem dL_law_364 : decode (dc DL_law) 364 = .ok (.iload 4, 2) := by decide +kernel
theorem dL_law_366 : decode (dc DL_law) 366 = .ok (.iconst 1, 1) := by decide +kernel
theorem dL_law_367 : decode (dc DL_law) 367 = .ok (.iadd, 1) := by decide +kernel
theorem dL_law_368 : decode (dc DL_law) 368 = .ok (.iaload, 1) := by decide +kernel
theorem dL_law_369 : decode (dc DL_law) 369 = .ok (.aload_n 3, 1) := by decide +kernel
theorem dL_law_370 : decode (dc DL_law) 370 = .ok (.invokestatic 129, 3) := by decide +kernel
theorem dL_law_373 : decode (dc DL_law) 373 = .ok (.istore 5, 2) := by decide +kernel
theorem dL_law_375 : decode (dc DL_law) 375 = .ok (.aload_n 2, 1) := by decide +kernel
theorem dL_law_376 : decode (dc DL_law) 376 = .ok (.aload_n 0, 1) := by decide +kernel
theorem dL_law_377 : decode (dc DL_law) 377 = .ok (.iload 4, 2) := by decide +kernel
theorem dL_law_379 : decode (dc DL_law) 379 = .ok (.iconst 1, 1) := by decide +kernel
theorem dL_law_380 : decode (dc DL_law) 380 = .ok (.iadd, 1) := by decide +kernel
theorem dL_law_381 : decode (dc DL_law) 381 = .ok (.iaload, 1) := by decide +kernel
theorem dL_law_382 : decode (dc DL_law) 382 = .ok (.invokevirtual 131, 3) := by decide +kernel
theorem dL_law_385 : decode (dc DL_law) 385 = .ok (.istore 6, 2) := by decide +kernel
theorem dL_law_387 : decode (dc DL_law) 387 = .ok (.aload_n 2, 1) := by decide +kernel
theorem dL_law_388 : decode (dc DL_law) 388 = .ok (.invokevirtual 121, 3) := by decide +kernel
theorem dL_law_391 : decode (dc DL_law) 391 = .ok (.iload 5, 2) := by decide +kernel
theorem dL_law_393 : decode (dc DL_law) 393 = .ok (.if_icmp .eq 5, 3) := by decide +kernel
theorem dL_law_396 : decode (dc DL_law) 396 = .ok (.iconst 0, 1) := by decide +kernel
theorem dL_law_397 : decode (dc DL_law) 397 = .ok (.ireturn, 1) := by decide +kernel
theorem dL_law_398 : decode (dc DL_law) 398 = .ok (.iload 5, 2) := by decide +kernel
theorem dL_law_400 : decode (dc DL_law) 400 = .ok (.ifCond .ne 15, 3) := by decide +kernel
theorem dL_law_403 : decode (dc DL_law) 403 = .ok (.aload_n 3, 1) := by decide +kernel
theorem dL_law_404 : decode (dc DL_law) 404 = .ok (.iconst 0, 1) := by decide +kernel
theorem dL_law_405 : decode (dc DL_law) 405 = .ok (.laload, 1) := by decide +kernel
theorem dL_law_406 : decode (dc DL_law) 406 = .ok (.iload 6, 2) := by decide +kernel
theorem dL_law_408 : decode (dc DL_law) 408 = .ok (.i2l, 1) := by decide +kernel
theorem dL_law_409 : decode (dc DL_law) 409 = .ok (.lcmp, 1) := by decide +kernel
theorem dL_law_410 : decode (dc DL_law) 410 = .ok (.ifCond .eq 5, 3) := by decide +kernel
theorem dL_law_413 : decode (dc DL_law) 413 = .ok (.iconst 0, 1) := by decide +kernel
theorem dL_law_414 : decode (dc DL_law) 414 = .ok (.ireturn, 1) := by decide +kernel
theorem dL_law_415 : decode (dc DL_law) 415 = .ok (.goto 1882, 3) := by decide +kernel
theorem dL_law_418 : decode (dc DL_law) 418 = .ok (.aload_n 1, 1) := by decide +kernel
theorem dL_law_419 : decode (dc DL_law) 419 = .ok (.aload_n 0, 1) := by decide +kernel
theorem dL_law_420 : decode (dc DL_law) 420 = .ok (.iload 4, 2) := by decide +kernel
theorem dL_law_422 : decode (dc DL_law) 422 = .ok (.iconst 1, 1) := by decide +kernel
theorem dL_law_423 : decode (dc DL_law) 423 = .ok (.iadd, 1) := by decide +kernel
theorem dL_law_424 : decode (dc DL_law) 424 = .ok (.iaload, 1) := by decide +kernel
theorem dL_law_425 : decode (dc DL_law) 425 = .ok (.aload_n 0, 1) := by decide +kernel
theorem dL_law_426 : decode (dc DL_law) 426 = .ok (.iload 4, 2) := by decide +kernel
theorem dL_law_428 : decode (dc DL_law) 428 = .ok (.iconst 2, 1) := by decide +kernel
theorem dL_law_429 : decode (dc DL_law) 429 = .ok (.iadd, 1) := by decide +kernel
theorem dL_law_430 : decode (dc DL_law) 430 = .ok (.iaload, 1) := by decide +kernel
theorem dL_law_431 : decode (dc DL_law) 431 = .ok (.aload_n 3, 1) := by decide +kernel
theorem dL_law_432 : decode (dc DL_law) 432 = .ok (.invokestatic 132, 3) := by decide +kernel
theorem dL_law_435 : decode (dc DL_law) 435 = .ok (.istore 5, 2) := by decide +kernel
theorem dL_law_437 : decode (dc DL_law) 437 = .ok (.aload_n 2, 1) := by decide +kernel
theorem dL_law_438 : decode (dc DL_law) 438 = .ok (.aload_n 0, 1) := by decide +kernel
theorem dL_law_439 : decode (dc DL_law) 439 = .ok (.iload 4, 2) := by decide +kernel
theorem dL_law_441 : decode (dc DL_law) 441 = .ok (.iconst 1, 1) := by decide +kernel
theorem dL_law_442 : decode (dc DL_law) 442 = .ok (.iadd, 1) := by decide +kernel
theorem dL_law_443 : decode (dc DL_law) 443 = .ok (.iaload, 1) := by decide +kernel
theorem dL_law_444 : decode (dc DL_law) 444 = .ok (.aload_n 0, 1) := by decide +kernel
theorem dL_law_445 : decode (dc DL_law) 445 = .ok (.iload 4, 2) := by decide +kernel
theorem dL_law_447 : decode (dc DL_law) 447 = .ok (.iconst 2, 1) := by decide +kernel
theorem dL_law_448 : decode (dc DL_law) 448 = .ok (.iadd, 1) := by decide +kernel
theorem dL_law_449 : decode (dc DL_law) 449 = .ok (.iaload, 1) := by decide +kernel
theorem dL_law_450 : decode (dc DL_law) 450 = .ok (.invokevirtual 135, 3) := by decide +kernel
theorem dL_law_453 : decode (dc DL_law) 453 = .ok (.istore 6, 2) := by decide +kernel
theorem dL_law_455 : decode (dc DL_law) 455 = .ok (.aload_n 2, 1) := by decide +kernel
theorem dL_law_456 : decode (dc DL_law) 456 = .ok (.invokevirtual 121, 3) := by decide +kernel
theorem dL_law_459 : decode (dc DL_law) 459 = .ok (.iload 5, 2) := by decide +kernel
theorem dL_law_461 : decode (dc DL_law) 461 = .ok (.if_icmp .eq 5, 3) := by decide +kernel
theorem dL_law_464 : decode (dc DL_law) 464 = .ok (.iconst 0, 1) := by decide +kernel
theorem dL_law_465 : decode (dc DL_law) 465 = .ok (.ireturn, 1) := by decide +kernel
theorem dL_law_466 : decode (dc DL_law) 466 = .ok (.iload 5, 2) := by decide +kernel
theorem dL_law_468 : decode (dc DL_law) 468 = .ok (.ifCond .ne 15, 3) := by decide +kernel
theorem dL_law_471 : decode (dc DL_law) 471 = .ok (.aload_n 3, 1) := by decide +kernel
theorem dL_law_472 : decode (dc DL_law) 472 = .ok (.iconst 0, 1) := by decide +kernel
theorem dL_law_473 : decode (dc DL_law) 473 = .ok (.laload, 1) := by decide +kernel
theorem dL_law_474 : decode (dc DL_law) 474 = .ok (.iload 6, 2) := by decide +kernel
theorem dL_law_476 : decode (dc DL_law) 476 = .ok (.i2l, 1) := by decide +kernel
theorem dL_law_477 : decode (dc DL_law) 477 = .ok (.lcmp, 1) := by decide +kernel
theorem dL_law_478 : decode (dc DL_law) 478 = .ok (.ifCond .eq 5, 3) := by decide +kernel
theorem dL_law_481 : decode (dc DL_law) 481 = .ok (.iconst 0, 1) := by decide +kernel
theorem dL_law_482 : decode (dc DL_law) 482 = .ok (.ireturn, 1) := by decide +kernel
theorem dL_law_483 : decode (dc DL_law) 483 = .ok (.goto 1814, 3) := by decide +kernel
theorem dL_law_486 : decode (dc DL_law) 486 = .ok (.aload_n 1, 1) := by decide +kernel
theorem dL_law_487 : decode (dc DL_law) 487 = .ok (.aload_n 0, 1) := by decide +kernel
theorem dL_law_488 : decode (dc DL_law) 488 = .ok (.iload 4, 2) := by decide +kernel
theorem dL_law_490 : decode (dc DL_law) 490 = .ok (.iconst 1, 1) := by decide +kernel
theorem dL_law_491 : decode (dc DL_law) 491 = .ok (.iadd, 1) := by decide +kernel
theorem dL_law_492 : decode (dc DL_law) 492 = .ok (.iaload, 1) := by decide +kernel
theorem dL_law_493 : decode (dc DL_law) 493 = .ok (.aload_n 0, 1) := by decide +kernel
theorem dL_law_494 : decode (dc DL_law) 494 = .ok (.iload 4, 2) := by decide +kernel
theorem dL_law_496 : decode (dc DL_law) 496 = .ok (.iconst 2, 1) := by decide +kernel
theorem dL_law_497 : decode (dc DL_law) 497 = .ok (.iadd, 1) := by decide +kernel
theorem dL_law_498 : decode (dc DL_law) 498 = .ok (.iaload, 1) := by decide +kernel
theorem dL_law_499 : decode (dc DL_law) 499 = .ok (.aload_n 3, 1) := by decide +kernel
theorem dL_law_500 : decode (dc DL_law) 500 = .ok (.invokestatic 136, 3) := by decide +kernel
theorem dL_law_503 : decode (dc DL_law) 503 = .ok (.istore 5, 2) := by decide +kernel
theorem dL_law_505 : decode (dc DL_law) 505 = .ok (.aload_n 2, 1) := by decide +kernel
theorem dL_law_506 : decode (dc DL_law) 506 = .ok (.aload_n 0, 1) := by decide +kernel
theorem dL_law_507 : decode (dc DL_law) 507 = .ok (.iload 4, 2) := by decide +kernel
theorem dL_law_509 : decode (dc DL_law) 509 = .ok (.iconst 1, 1) := by decide +kernel
theorem dL_law_510 : decode (dc DL_law) 510 = .ok (.iadd, 1) := by decide +kernel
theorem dL_law_511 : decode (dc DL_law) 511 = .ok (.iaload, 1) := by decide +kernel
theorem dL_law_512 : decode (dc DL_law) 512 = .ok (.aload_n 0, 1) := by decide +kernel
theorem dL_law_513 : decode (dc DL_law) 513 = .ok (.iload 4, 2) := by decide +kernel
theorem dL_law_515 : decode (dc DL_law) 515 = .ok (.iconst 2, 1) := by decide +kernel
theorem dL_law_516 : decode (dc DL_law) 516 = .ok (.iadd, 1) := by decide +kernel
theorem dL_law_517 : decode (dc DL_law) 517 = .ok (.iaload, 1) := by decide +kernel
theorem dL_law_518 : decode (dc DL_law) 518 = .ok (.invokevirtual 138, 3) := by decide +kernel
theorem dL_law_521 : decode (dc DL_law) 521 = .ok (.istore 6, 2) := by decide +kernel
theorem dL_law_523 : decode (dc DL_law) 523 = .ok (.aload_n 2, 1) := by decide +kernel
theorem dL_law_524 : decode (dc DL_law) 524 = .ok (.invokevirtual 121, 3) := by decide +kernel
theorem dL_law_527 : decode (dc DL_law) 527 = .ok (.iload 5, 2) := by decide +kernel
theorem dL_law_529 : decode (dc DL_law) 529 = .ok (.if_icmp .eq 5, 3) := by decide +kernel
theorem dL_law_532 : decode (dc DL_law) 532 = .ok (.iconst 0, 1) := by decide +kernel
theorem dL_law_533 : decode (dc DL_law) 533 = .ok (.ireturn, 1) := by decide +kernel
theorem dL_law_534 : decode (dc DL_law) 534 = .ok (.iload 5, 2) := by decide +kernel
theorem dL_law_536 : decode (dc DL_law) 536 = .ok (.ifCond .ne 15, 3) := by decide +kernel
theorem dL_law_539 : decode (dc DL_law) 539 = .ok (.aload_n 3, 1) := by decide +kernel
theorem dL_law_540 : decode (dc DL_law) 540 = .ok (.iconst 0, 1) := by decide +kernel
theorem dL_law_541 : decode (dc DL_law) 541 = .ok (.laload, 1) := by decide +kernel
theorem dL_law_542 : decode (dc DL_law) 542 = .ok (.iload 6, 2) := by decide +kernel
theorem dL_law_544 : decode (dc DL_law) 544 = .ok (.i2l, 1) := by decide +kernel
theorem dL_law_545 : decode (dc DL_law) 545 = .ok (.lcmp, 1) := by decide +kernel
theorem dL_law_546 : decode (dc DL_law) 546 = .ok (.ifCond .eq 5, 3) := by decide +kernel
theorem dL_law_549 : decode (dc DL_law) 549 = .ok (.iconst 0, 1) := by decide +kernel
theorem dL_law_550 : decode (dc DL_law) 550 = .ok (.ireturn, 1) := by decide +kernel
theorem dL_law_551 : decode (dc DL_law) 551 = .ok (.goto 1746, 3) := by decide +kernel
theorem dL_law_554 : decode (dc DL_law) 554 = .ok (.aload_n 1, 1) := by decide +kernel
theorem dL_law_555 : decode (dc DL_law) 555 = .ok (.aload_n 0, 1) := by decide +kernel
theorem dL_law_556 : decode (dc DL_law) 556 = .ok (.iload 4, 2) := by decide +kernel
theorem dL_law_558 : decode (dc DL_law) 558 = .ok (.iconst 1, 1) := by decide +kernel
theorem dL_law_559 : decode (dc DL_law) 559 = .ok (.iadd, 1) := by decide +kernel
theorem dL_law_560 : decode (dc DL_law) 560 = .ok (.iaload, 1) := by decide +kernel
theorem dL_law_561 : decode (dc DL_law) 561 = .ok (.aload_n 0, 1) := by decide +kernel
theorem dL_law_562 : decode (dc DL_law) 562 = .ok (.iload 4, 2) := by decide +kernel
theorem dL_law_564 : decode (dc DL_law) 564 = .ok (.iconst 2, 1) := by decide +kernel
theorem dL_law_565 : decode (dc DL_law) 565 = .ok (.iadd, 1) := by decide +kernel
theorem dL_law_566 : decode (dc DL_law) 566 = .ok (.iaload, 1) := by decide +kernel
theorem dL_law_567 : decode (dc DL_law) 567 = .ok (.aload_n 3, 1) := by decide +kernel
theorem dL_law_568 : decode (dc DL_law) 568 = .ok (.invokestatic 139, 3) := by decide +kernel
theorem dL_law_571 : decode (dc DL_law) 571 = .ok (.istore 5, 2) := by decide +kernel
theorem dL_law_573 : decode (dc DL_law) 573 = .ok (.aload_n 2, 1) := by decide +kernel
theorem dL_law_574 : decode (dc DL_law) 574 = .ok (.aload_n 0, 1) := by decide +kernel
theorem dL_law_575 : decode (dc DL_law) 575 = .ok (.iload 4, 2) := by decide +kernel
theorem dL_law_577 : decode (dc DL_law) 577 = .ok (.iconst 1, 1) := by decide +kernel
theorem dL_law_578 : decode (dc DL_law) 578 = .ok (.iadd, 1) := by decide +kernel
theorem dL_law_579 : decode (dc DL_law) 579 = .ok (.iaload, 1) := by decide +kernel
theorem dL_law_580 : decode (dc DL_law) 580 = .ok (.aload_n 0, 1) := by decide +kernel
theorem dL_law_581 : decode (dc DL_law) 581 = .ok (.iload 4, 2) := by decide +kernel
theorem dL_law_583 : decode (dc DL_law) 583 = .ok (.iconst 2, 1) := by decide +kernel
theorem dL_law_584 : decode (dc DL_law) 584 = .ok (.iadd, 1) := by decide +kernel
theorem dL_law_585 : decode (dc DL_law) 585 = .ok (.iaload, 1) := by decide +kernel
theorem dL_law_586 : decode (dc DL_law) 586 = .ok (.invokevirtual 141, 3) := by decide +kernel
theorem dL_law_589 : decode (dc DL_law) 589 = .ok (.istore 6, 2) := by decide +kernel
theorem dL_law_591 : decode (dc DL_law) 591 = .ok (.aload_n 2, 1) := by decide +kernel
theorem dL_law_592 : decode (dc DL_law) 592 = .ok (.invokevirtual 121, 3) := by decide +kernel
theorem dL_law_595 : decode (dc DL_law) 595 = .ok (.iload 5, 2) := by decide +kernel
theorem dL_law_597 : decode (dc DL_law) 597 = .ok (.if_icmp .eq 5, 3) := by decide +kernel
theorem dL_law_600 : decode (dc DL_law) 600 = .ok (.iconst 0, 1) := by decide +kernel
theorem dL_law_601 : decode (dc DL_law) 601 = .ok (.ireturn, 1) := by decide +kernel
theorem dL_law_602 : decode (dc DL_law) 602 = .ok (.iload 5, 2) := by decide +kernel
theorem dL_law_604 : decode (dc DL_law) 604 = .ok (.ifCond .ne 15, 3) := by decide +kernel
theorem dL_law_607 : decode (dc DL_law) 607 = .ok (.aload_n 3, 1) := by decide +kernel
theorem dL_law_608 : decode (dc DL_law) 608 = .ok (.iconst 0, 1) := by decide +kernel
theorem dL_law_609 : decode (dc DL_law) 609 = .ok (.laload, 1) := by decide +kernel
theorem dL_law_610 : decode (dc DL_law) 610 = .ok (.iload 6, 2) := by decide +kernel
theorem dL_law_612 : decode (dc DL_law) 612 = .ok (.i2l, 1) := by decide +kernel
theorem dL_law_613 : decode (dc DL_law) 613 = .ok (.lcmp, 1) := by decide +kernel
theorem dL_law_614 : decode (dc DL_law) 614 = .ok (.ifCond .eq 5, 3) := by decide +kernel
theorem dL_law_617 : decode (dc DL_law) 617 = .ok (.iconst 0, 1) := by decide +kernel
theorem dL_law_618 : decode (dc DL_law) 618 = .ok (.ireturn, 1) := by decide +kernel
theorem dL_law_619 : decode (dc DL_law) 619 = .ok (.goto 1678, 3) := by decide +kernel
theorem dL_law_622 : decode (dc DL_law) 622 = .ok (.aload_n 1, 1) := by decide +kernel
theorem dL_law_623 : decode (dc DL_law) 623 = .ok (.invokevirtual 142, 3) := by decide +kernel
theorem dL_law_626 : decode (dc DL_law) 626 = .ok (.aload_n 2, 1) := by decide +kernel
theorem dL_law_627 : decode (dc DL_law) 627 = .ok (.invokevirtual 145, 3) := by decide +kernel
theorem dL_law_630 : decode (dc DL_law) 630 = .ok (.if_icmp .eq 1667, 3) := by decide +kernel
theorem dL_law_633 : decode (dc DL_law) 633 = .ok (.iconst 0, 1) := by decide +kernel
theorem dL_law_634 : decode (dc DL_law) 634 = .ok (.ireturn, 1) := by decide +kernel
theorem dL_law_635 : decode (dc DL_law) 635 = .ok (.aload_n 1, 1) := by decide +kernel
theorem dL_law_636 : decode (dc DL_law) 636 = .ok (.aload_n 0, 1) := by decide +kernel
theorem dL_law_637 : decode (dc DL_law) 637 = .ok (.iload 4, 2) := by decide +kernel
theorem dL_law_639 : decode (dc DL_law) 639 = .ok (.iconst 1, 1) := by decide +kernel
theorem dL_law_640 : decode (dc DL_law) 640 = .ok (.iadd, 1) := by decide +kernel
theorem dL_law_641 : decode (dc DL_law) 641 = .ok (.iaload, 1) := by decide +kernel
theorem dL_law_642 : decode (dc DL_law) 642 = .ok (.aload_n 3, 1) := by decide +kernel
theorem dL_law_643 : decode (dc DL_law) 643 = .ok (.invokestatic 146, 3) := by decide +kernel
theorem dL_law_646 : decode (dc DL_law) 646 = .ok (.istore 5, 2) := by decide +kernel
theorem dL_law_648 : decode (dc DL_law) 648 = .ok (.aload_n 2, 1) := by decide +kernel
theorem dL_law_649 : decode (dc DL_law) 649 = .ok (.aload_n 0, 1) := by decide +kernel
theorem dL_law_650 : decode (dc DL_law) 650 = .ok (.iload 4, 2) := by decide +kernel
theorem dL_law_652 : decode (dc DL_law) 652 = .ok (.iconst 1, 1) := by decide +kernel
theorem dL_law_653 : decode (dc DL_law) 653 = .ok (.iadd, 1) := by decide +kernel
theorem dL_law_654 : decode (dc DL_law) 654 = .ok (.iaload, 1) := by decide +kernel
theorem dL_law_655 : decode (dc DL_law) 655 = .ok (.invokevirtual 148, 3) := by decide +kernel
theorem dL_law_658 : decode (dc DL_law) 658 = .ok (.istore 6, 2) := by decide +kernel
theorem dL_law_660 : decode (dc DL_law) 660 = .ok (.aload_n 2, 1) := by decide +kernel
theorem dL_law_661 : decode (dc DL_law) 661 = .ok (.invokevirtual 121, 3) := by decide +kernel
theorem dL_law_664 : decode (dc DL_law) 664 = .ok (.iload 5, 2) := by decide +kernel
theorem dL_law_666 : decode (dc DL_law) 666 = .ok (.if_icmp .eq 5, 3) := by decide +kernel
theorem dL_law_669 : decode (dc DL_law) 669 = .ok (.iconst 0, 1) := by decide +kernel
theorem dL_law_670 : decode (dc DL_law) 670 = .ok (.ireturn, 1) := by decide +kernel
theorem dL_law_671 : decode (dc DL_law) 671 = .ok (.iload 5, 2) := by decide +kernel
theorem dL_law_673 : decode (dc DL_law) 673 = .ok (.ifCond .ne 15, 3) := by decide +kernel
theorem dL_law_676 : decode (dc DL_law) 676 = .ok (.aload_n 3, 1) := by decide +kernel
theorem dL_law_677 : decode (dc DL_law) 677 = .ok (.iconst 0, 1) := by decide +kernel
theorem dL_law_678 : decode (dc DL_law) 678 = .ok (.laload, 1) := by decide +kernel
theorem dL_law_679 : decode (dc DL_law) 679 = .ok (.iload 6, 2) := by decide +kernel
theorem dL_law_681 : decode (dc DL_law) 681 = .ok (.i2l, 1) := by decide +kernel
theorem dL_law_682 : decode (dc DL_law) 682 = .ok (.lcmp, 1) := by decide +kernel
theorem dL_law_683 : decode (dc DL_law) 683 = .ok (.ifCond .eq 5, 3) := by decide +kernel
theorem dL_law_686 : decode (dc DL_law) 686 = .ok (.iconst 0, 1) := by decide +kernel
theorem dL_law_687 : decode (dc DL_law) 687 = .ok (.ireturn, 1) := by decide +kernel
theorem dL_law_688 : decode (dc DL_law) 688 = .ok (.goto 1609, 3) := by decide +kernel
theorem dL_law_691 : decode (dc DL_law) 691 = .ok (.aload_n 1, 1) := by decide +kernel
theorem dL_law_692 : decode (dc DL_law) 692 = .ok (.aload_n 0, 1) := by decide +kernel
theorem dL_law_693 : decode (dc DL_law) 693 = .ok (.iload 4, 2) := by decide +kernel
theorem dL_law_695 : decode (dc DL_law) 695 = .ok (.iconst 1, 1) := by decide +kernel
theorem dL_law_696 : decode (dc DL_law) 696 = .ok (.iadd, 1) := by decide +kernel
theorem dL_law_697 : decode (dc DL_law) 697 = .ok (.iaload, 1) := by decide +kernel
theorem dL_law_698 : decode (dc DL_law) 698 = .ok (.aload_n 0, 1) := by decide +kernel
theorem dL_law_699 : decode (dc DL_law) 699 = .ok (.iload 4, 2) := by decide +kernel
theorem dL_law_701 : decode (dc DL_law) 701 = .ok (.iconst 2, 1) := by decide +kernel
theorem dL_law_702 : decode (dc DL_law) 702 = .ok (.iadd, 1) := by decide +kernel
theorem dL_law_703 : decode (dc DL_law) 703 = .ok (.iaload, 1) := by decide +kernel
theorem dL_law_704 : decode (dc DL_law) 704 = .ok (.aload_n 3, 1) := by decide +kernel
theorem dL_law_705 : decode (dc DL_law) 705 = .ok (.invokestatic 149, 3) := by decide +kernel
theorem dL_law_708 : decode (dc DL_law) 708 = .ok (.istore 5, 2) := by decide +kernel
theorem dL_law_710 : decode (dc DL_law) 710 = .ok (.aload_n 2, 1) := by decide +kernel
theorem dL_law_711 : decode (dc DL_law) 711 = .ok (.aload_n 0, 1) := by decide +kernel
theorem dL_law_712 : decode (dc DL_law) 712 = .ok (.iload 4, 2) := by decide +kernel
theorem dL_law_714 : decode (dc DL_law) 714 = .ok (.iconst 1, 1) := by decide +kernel
theorem dL_law_715 : decode (dc DL_law) 715 = .ok (.iadd, 1) := by decide +kernel
theorem dL_law_716 : decode (dc DL_law) 716 = .ok (.iaload, 1) := by decide +kernel
theorem dL_law_717 : decode (dc DL_law) 717 = .ok (.aload_n 0, 1) := by decide +kernel
theorem dL_law_718 : decode (dc DL_law) 718 = .ok (.iload 4, 2) := by decide +kernel
theorem dL_law_720 : decode (dc DL_law) 720 = .ok (.iconst 2, 1) := by decide +kernel
theorem dL_law_721 : decode (dc DL_law) 721 = .ok (.iadd, 1) := by decide +kernel
theorem dL_law_722 : decode (dc DL_law) 722 = .ok (.iaload, 1) := by decide +kernel
theorem dL_law_723 : decode (dc DL_law) 723 = .ok (.invokevirtual 151, 3) := by decide +kernel
theorem dL_law_726 : decode (dc DL_law) 726 = .ok (.istore 6, 2) := by decide +kernel
theorem dL_law_728 : decode (dc DL_law) 728 = .ok (.aload_n 2, 1) := by decide +kernel
theorem dL_law_729 : decode (dc DL_law) 729 = .ok (.invokevirtual 121, 3) := by decide +kernel
theorem dL_law_732 : decode (dc DL_law) 732 = .ok (.iload 5, 2) := by decide +kernel
theorem dL_law_734 : decode (dc DL_law) 734 = .ok (.if_icmp .eq 5, 3) := by decide +kernel
theorem dL_law_737 : decode (dc DL_law) 737 = .ok (.iconst 0, 1) := by decide +kernel
theorem dL_law_738 : decode (dc DL_law) 738 = .ok (.ireturn, 1) := by decide +kernel
theorem dL_law_739 : decode (dc DL_law) 739 = .ok (.iload 5, 2) := by decide +kernel
theorem dL_law_741 : decode (dc DL_law) 741 = .ok (.ifCond .ne 15, 3) := by decide +kernel
theorem dL_law_744 : decode (dc DL_law) 744 = .ok (.aload_n 3, 1) := by decide +kernel
theorem dL_law_745 : decode (dc DL_law) 745 = .ok (.iconst 0, 1) := by decide +kernel
theorem dL_law_746 : decode (dc DL_law) 746 = .ok (.laload, 1) := by decide +kernel
theorem dL_law_747 : decode (dc DL_law) 747 = .ok (.iload 6, 2) := by decide +kernel
theorem dL_law_749 : decode (dc DL_law) 749 = .ok (.i2l, 1) := by decide +kernel
theorem dL_law_750 : decode (dc DL_law) 750 = .ok (.lcmp, 1) := by decide +kernel
theorem dL_law_751 : decode (dc DL_law) 751 = .ok (.ifCond .eq 5, 3) := by decide +kernel
theorem dL_law_754 : decode (dc DL_law) 754 = .ok (.iconst 0, 1) := by decide +kernel
theorem dL_law_755 : decode (dc DL_law) 755 = .ok (.ireturn, 1) := by decide +kernel
theorem dL_law_756 : decode (dc DL_law) 756 = .ok (.goto 1541, 3) := by decide +kernel
theorem dL_law_759 : decode (dc DL_law) 759 = .ok (.aload_n 1, 1) := by decide +kernel
theorem dL_law_760 : decode (dc DL_law) 760 = .ok (.aload_n 0, 1) := by decide +kernel
theorem dL_law_761 : decode (dc DL_law) 761 = .ok (.iload 4, 2) := by decide +kernel
theorem dL_law_763 : decode (dc DL_law) 763 = .ok (.iconst 1, 1) := by decide +kernel
theorem dL_law_764 : decode (dc DL_law) 764 = .ok (.iadd, 1) := by decide +kernel
theorem dL_law_765 : decode (dc DL_law) 765 = .ok (.iaload, 1) := by decide +kernel
theorem dL_law_766 : decode (dc DL_law) 766 = .ok (.aload_n 3, 1) := by decide +kernel
theorem dL_law_767 : decode (dc DL_law) 767 = .ok (.invokestatic 152, 3) := by decide +kernel
theorem dL_law_770 : decode (dc DL_law) 770 = .ok (.istore 5, 2) := by decide +kernel
theorem dL_law_772 : decode (dc DL_law) 772 = .ok (.aload_n 2, 1) := by decide +kernel
theorem dL_law_773 : decode (dc DL_law) 773 = .ok (.aload_n 0, 1) := by decide +kernel
theorem dL_law_774 : decode (dc DL_law) 774 = .ok (.iload 4, 2) := by decide +kernel
theorem dL_law_776 : decode (dc DL_law) 776 = .ok (.iconst 1, 1) := by decide +kernel
theorem dL_law_777 : decode (dc DL_law) 777 = .ok (.iadd, 1) := by decide +kernel
theorem dL_law_778 : decode (dc DL_law) 778 = .ok (.iaload, 1) := by decide +kernel
theorem dL_law_779 : decode (dc DL_law) 779 = .ok (.invokevirtual 154, 3) := by decide +kernel
theorem dL_law_782 : decode (dc DL_law) 782 = .ok (.istore 6, 2) := by decide +kernel
theorem dL_law_784 : decode (dc DL_law) 784 = .ok (.aload_n 2, 1) := by decide +kernel
theorem dL_law_785 : decode (dc DL_law) 785 = .ok (.invokevirtual 121, 3) := by decide +kernel
theorem dL_law_788 : decode (dc DL_law) 788 = .ok (.iload 5, 2) := by decide +kernel
theorem dL_law_790 : decode (dc DL_law) 790 = .ok (.if_icmp .eq 5, 3) := by decide +kernel
theorem dL_law_793 : decode (dc DL_law) 793 = .ok (.iconst 0, 1) := by decide +kernel
theorem dL_law_794 : decode (dc DL_law) 794 = .ok (.ireturn, 1) := by decide +kernel
theorem dL_law_795 : decode (dc DL_law) 795 = .ok (.iload 5, 2) := by decide +kernel
theorem dL_law_797 : decode (dc DL_law) 797 = .ok (.ifCond .ne 15, 3) := by decide +kernel
theorem dL_law_800 : decode (dc DL_law) 800 = .ok (.aload_n 3, 1) := by decide +kernel
theorem dL_law_801 : decode (dc DL_law) 801 = .ok (.iconst 0, 1) := by decide +kernel
theorem dL_law_802 : decode (dc DL_law) 802 = .ok (.laload, 1) := by decide +kernel
theorem dL_law_803 : decode (dc DL_law) 803 = .ok (.iload 6, 2) := by decide +kernel
theorem dL_law_805 : decode (dc DL_law) 805 = .ok (.i2l, 1) := by decide +kernel
theorem dL_law_806 : decode (dc DL_law) 806 = .ok (.lcmp, 1) := by decide +kernel
theorem dL_law_807 : decode (dc DL_law) 807 = .ok (.ifCond .eq 5, 3) := by decide +kernel
theorem dL_law_810 : decode (dc DL_law) 810 = .ok (.iconst 0, 1) := by decide +kernel
theorem dL_law_811 : decode (dc DL_law) 811 = .ok (.ireturn, 1) := by decide +kernel
theorem dL_law_812 : decode (dc DL_law) 812 = .ok (.goto 1485, 3) := by decide +kernel
theorem dL_law_815 : decode (dc DL_law) 815 = .ok (.aload_n 1, 1) := by decide +kernel
theorem dL_law_816 : decode (dc DL_law) 816 = .ok (.aload_n 0, 1) := by decide +kernel
theorem dL_law_817 : decode (dc DL_law) 817 = .ok (.iload 4, 2) := by decide +kernel
theorem dL_law_819 : decode (dc DL_law) 819 = .ok (.iconst 1, 1) := by decide +kernel
theorem dL_law_820 : decode (dc DL_law) 820 = .ok (.iadd, 1) := by decide +kernel
theorem dL_law_821 : decode (dc DL_law) 821 = .ok (.iaload, 1) := by decide +kernel
theorem dL_law_822 : decode (dc DL_law) 822 = .ok (.aload_n 3, 1) := by decide +kernel
theorem dL_law_823 : decode (dc DL_law) 823 = .ok (.invokestatic 155, 3) := by decide +kernel
theorem dL_law_826 : decode (dc DL_law) 826 = .ok (.istore 5, 2) := by decide +kernel
theorem dL_law_828 : decode (dc DL_law) 828 = .ok (.aload_n 2, 1) := by decide +kernel
theorem dL_law_829 : decode (dc DL_law) 829 = .ok (.aload_n 0, 1) := by decide +kernel
theorem dL_law_830 : decode (dc DL_law) 830 = .ok (.iload 4, 2) := by decide +kernel
theorem dL_law_832 : decode (dc DL_law) 832 = .ok (.iconst 1, 1) := by decide +kernel
theorem dL_law_833 : decode (dc DL_law) 833 = .ok (.iadd, 1) := by decide +kernel
theorem dL_law_834 : decode (dc DL_law) 834 = .ok (.iaload, 1) := by decide +kernel
theorem dL_law_835 : decode (dc DL_law) 835 = .ok (.invokevirtual 157, 3) := by decide +kernel
theorem dL_law_838 : decode (dc DL_law) 838 = .ok (.istore 6, 2) := by decide +kernel
theorem dL_law_840 : decode (dc DL_law) 840 = .ok (.aload_n 2, 1) := by decide +kernel
theorem dL_law_841 : decode (dc DL_law) 841 = .ok (.invokevirtual 121, 3) := by decide +kernel
theorem dL_law_844 : decode (dc DL_law) 844 = .ok (.iload 5, 2) := by decide +kernel
theorem dL_law_846 : decode (dc DL_law) 846 = .ok (.if_icmp .eq 5, 3) := by decide +kernel
theorem dL_law_849 : decode (dc DL_law) 849 = .ok (.iconst 0, 1) := by decide +kernel
theorem dL_law_850 : decode (dc DL_law) 850 = .ok (.ireturn, 1) := by decide +kernel
theorem dL_law_851 : decode (dc DL_law) 851 = .ok (.iload 5, 2) := by decide +kernel
theorem dL_law_853 : decode (dc DL_law) 853 = .ok (.ifCond .ne 15, 3) := by decide +kernel
theorem dL_law_856 : decode (dc DL_law) 856 = .ok (.aload_n 3, 1) := by decide +kernel
theorem dL_law_857 : decode (dc DL_law) 857 = .ok (.iconst 0, 1) := by decide +kernel
theorem dL_law_858 : decode (dc DL_law) 858 = .ok (.laload, 1) := by decide +kernel
theorem dL_law_859 : decode (dc DL_law) 859 = .ok (.iload 6, 2) := by decide +kernel
theorem dL_law_861 : decode (dc DL_law) 861 = .ok (.i2l, 1) := by decide +kernel
theorem dL_law_862 : decode (dc DL_law) 862 = .ok (.lcmp, 1) := by decide +kernel
theorem dL_law_863 : decode (dc DL_law) 863 = .ok (.ifCond .eq 5, 3) := by decide +kernel
theorem dL_law_866 : decode (dc DL_law) 866 = .ok (.iconst 0, 1) := by decide +kernel
theorem dL_law_867 : decode (dc DL_law) 867 = .ok (.ireturn, 1) := by decide +kernel
theorem dL_law_868 : decode (dc DL_law) 868 = .ok (.goto 1429, 3) := by decide +kernel
theorem dL_law_871 : decode (dc DL_law) 871 = .ok (.aload_n 1, 1) := by decide +kernel
theorem dL_law_872 : decode (dc DL_law) 872 = .ok (.invokevirtual 158, 3) := by decide +kernel
theorem dL_law_875 : decode (dc DL_law) 875 = .ok (.aload_n 2, 1) := by decide +kernel
theorem dL_law_876 : decode (dc DL_law) 876 = .ok (.invokevirtual 161, 3) := by decide +kernel
theorem dL_law_879 : decode (dc DL_law) 879 = .ok (.if_icmp .eq 1418, 3) := by decide +kernel
theorem dL_law_882 : decode (dc DL_law) 882 = .ok (.iconst 0, 1) := by decide +kernel
theorem dL_law_883 : decode (dc DL_law) 883 = .ok (.ireturn, 1) := by decide +kernel
theorem dL_law_884 : decode (dc DL_law) 884 = .ok (.aload_n 1, 1) := by decide +kernel
theorem dL_law_885 : decode (dc DL_law) 885 = .ok (.aload_n 0, 1) := by decide +kernel
theorem dL_law_886 : decode (dc DL_law) 886 = .ok (.iload 4, 2) := by decide +kernel
theorem dL_law_888 : decode (dc DL_law) 888 = .ok (.iconst 1, 1) := by decide +kernel
theorem dL_law_889 : decode (dc DL_law) 889 = .ok (.iadd, 1) := by decide +kernel
theorem dL_law_890 : decode (dc DL_law) 890 = .ok (.iaload, 1) := by decide +kernel
theorem dL_law_891 : decode (dc DL_law) 891 = .ok (.aload_n 3, 1) := by decide +kernel
theorem dL_law_892 : decode (dc DL_law) 892 = .ok (.invokestatic 162, 3) := by decide +kernel
theorem dL_law_895 : decode (dc DL_law) 895 = .ok (.istore 5, 2) := by decide +kernel
theorem dL_law_897 : decode (dc DL_law) 897 = .ok (.aload_n 2, 1) := by decide +kernel
theorem dL_law_898 : decode (dc DL_law) 898 = .ok (.aload_n 0, 1) := by decide +kernel
theorem dL_law_899 : decode (dc DL_law) 899 = .ok (.iload 4, 2) := by decide +kernel
theorem dL_law_901 : decode (dc DL_law) 901 = .ok (.iconst 1, 1) := by decide +kernel
theorem dL_law_902 : decode (dc DL_law) 902 = .ok (.iadd, 1) := by decide +kernel
theorem dL_law_903 : decode (dc DL_law) 903 = .ok (.iaload, 1) := by decide +kernel
theorem dL_law_904 : decode (dc DL_law) 904 = .ok (.invokevirtual 164, 3) := by decide +kernel
theorem dL_law_907 : decode (dc DL_law) 907 = .ok (.istore 6, 2) := by decide +kernel
theorem dL_law_909 : decode (dc DL_law) 909 = .ok (.aload_n 2, 1) := by decide +kernel
theorem dL_law_910 : decode (dc DL_law) 910 = .ok (.invokevirtual 121, 3) := by decide +kernel
theorem dL_law_913 : decode (dc DL_law) 913 = .ok (.iload 5, 2) := by decide +kernel
theorem dL_law_915 : decode (dc DL_law) 915 = .ok (.if_icmp .eq 5, 3) := by decide +kernel
theorem dL_law_918 : decode (dc DL_law) 918 = .ok (.iconst 0, 1) := by decide +kernel
theorem dL_law_919 : decode (dc DL_law) 919 = .ok (.ireturn, 1) := by decide +kernel
theorem dL_law_920 : decode (dc DL_law) 920 = .ok (.iload 5, 2) := by decide +kernel
theorem dL_law_922 : decode (dc DL_law) 922 = .ok (.ifCond .ne 15, 3) := by decide +kernel
theorem dL_law_925 : decode (dc DL_law) 925 = .ok (.aload_n 3, 1) := by decide +kernel
theorem dL_law_926 : decode (dc DL_law) 926 = .ok (.iconst 0, 1) := by decide +kernel
theorem dL_law_927 : decode (dc DL_law) 927 = .ok (.laload, 1) := by decide +kernel
theorem dL_law_928 : decode (dc DL_law) 928 = .ok (.iload 6, 2) := by decide +kernel
theorem dL_law_930 : decode (dc DL_law) 930 = .ok (.i2l, 1) := by decide +kernel
theorem dL_law_931 : decode (dc DL_law) 931 = .ok (.lcmp, 1) := by decide +kernel
theorem dL_law_932 : decode (dc DL_law) 932 = .ok (.ifCond .eq 5, 3) := by decide +kernel
theorem dL_law_935 : decode (dc DL_law) 935 = .ok (.iconst 0, 1) := by decide +kernel
theorem dL_law_936 : decode (dc DL_law) 936 = .ok (.ireturn, 1) := by decide +kernel
theorem dL_law_937 : decode (dc DL_law) 937 = .ok (.goto 1360, 3) := by decide +kernel
theorem dL_law_940 : decode (dc DL_law) 940 = .ok (.aload_n 1, 1) := by decide +kernel
theorem dL_law_941 : decode (dc DL_law) 941 = .ok (.aload_n 0, 1) := by decide +kernel
theorem dL_law_942 : decode (dc DL_law) 942 = .ok (.iload 4, 2) := by decide +kernel
theorem dL_law_944 : decode (dc DL_law) 944 = .ok (.iconst 1, 1) := by decide +kernel
theorem dL_law_945 : decode (dc DL_law) 945 = .ok (.iadd, 1) := by decide +kernel
theorem dL_law_946 : decode (dc DL_law) 946 = .ok (.iaload, 1) := by decide +kernel
theorem dL_law_947 : decode (dc DL_law) 947 = .ok (.aload_n 3, 1) := by decide +kernel
theorem dL_law_948 : decode (dc DL_law) 948 = .ok (.invokestatic 165, 3) := by decide +kernel
theorem dL_law_951 : decode (dc DL_law) 951 = .ok (.istore 5, 2) := by decide +kernel
theorem dL_law_953 : decode (dc DL_law) 953 = .ok (.aload_n 2, 1) := by decide +kernel
theorem dL_law_954 : decode (dc DL_law) 954 = .ok (.aload_n 0, 1) := by decide +kernel
theorem dL_law_955 : decode (dc DL_law) 955 = .ok (.iload 4, 2) := by decide +kernel
theorem dL_law_957 : decode (dc DL_law) 957 = .ok (.iconst 1, 1) := by decide +kernel
theorem dL_law_958 : decode (dc DL_law) 958 = .ok (.iadd, 1) := by decide +kernel
theorem dL_law_959 : decode (dc DL_law) 959 = .ok (.iaload, 1) := by decide +kernel
theorem dL_law_960 : decode (dc DL_law) 960 = .ok (.invokevirtual 167, 3) := by decide +kernel
theorem dL_law_963 : decode (dc DL_law) 963 = .ok (.istore 6, 2) := by decide +kernel
theorem dL_law_965 : decode (dc DL_law) 965 = .ok (.aload_n 2, 1) := by decide +kernel
theorem dL_law_966 : decode (dc DL_law) 966 = .ok (.invokevirtual 121, 3) := by decide +kernel
theorem dL_law_969 : decode (dc DL_law) 969 = .ok (.iload 5, 2) := by decide +kernel
theorem dL_law_971 : decode (dc DL_law) 971 = .ok (.if_icmp .eq 5, 3) := by decide +kernel
theorem dL_law_974 : decode (dc DL_law) 974 = .ok (.iconst 0, 1) := by decide +kernel
theorem dL_law_975 : decode (dc DL_law) 975 = .ok (.ireturn, 1) := by decide +kernel
theorem dL_law_976 : decode (dc DL_law) 976 = .ok (.iload 5, 2) := by decide +kernel
theorem dL_law_978 : decode (dc DL_law) 978 = .ok (.ifCond .ne 15, 3) := by decide +kernel
theorem dL_law_981 : decode (dc DL_law) 981 = .ok (.aload_n 3, 1) := by decide +kernel
theorem dL_law_982 : decode (dc DL_law) 982 = .ok (.iconst 0, 1) := by decide +kernel
theorem dL_law_983 : decode (dc DL_law) 983 = .ok (.laload, 1) := by decide +kernel
theorem dL_law_984 : decode (dc DL_law) 984 = .ok (.iload 6, 2) := by decide +kernel
theorem dL_law_986 : decode (dc DL_law) 986 = .ok (.i2l, 1) := by decide +kernel
theorem dL_law_987 : decode (dc DL_law) 987 = .ok (.lcmp, 1) := by decide +kernel
theorem dL_law_988 : decode (dc DL_law) 988 = .ok (.ifCond .eq 5, 3) := by decide +kernel
theorem dL_law_991 : decode (dc DL_law) 991 = .ok (.iconst 0, 1) := by decide +kernel
theorem dL_law_992 : decode (dc DL_law) 992 = .ok (.ireturn, 1) := by decide +kernel
theorem dL_law_993 : decode (dc DL_law) 993 = .ok (.goto 1304, 3) := by decide +kernel
theorem dL_law_996 : decode (dc DL_law) 996 = .ok (.aload_n 1, 1) := by decide +kernel
theorem dL_law_997 : decode (dc DL_law) 997 = .ok (.aload_n 0, 1) := by decide +kernel
theorem dL_law_998 : decode (dc DL_law) 998 = .ok (.iload 4, 2) := by decide +kernel
theorem dL_law_1000 : decode (dc DL_law) 1000 = .ok (.iconst 1, 1) := by decide +kernel
theorem dL_law_1001 : decode (dc DL_law) 1001 = .ok (.iadd, 1) := by decide +kernel
theorem dL_law_1002 : decode (dc DL_law) 1002 = .ok (.iaload, 1) := by decide +kernel
theorem dL_law_1003 : decode (dc DL_law) 1003 = .ok (.aload_n 0, 1) := by decide +kernel
theorem dL_law_1004 : decode (dc DL_law) 1004 = .ok (.iload 4, 2) := by decide +kernel
theorem dL_law_1006 : decode (dc DL_law) 1006 = .ok (.iconst 2, 1) := by decide +kernel
theorem dL_law_1007 : decode (dc DL_law) 1007 = .ok (.iadd, 1) := by decide +kernel
theorem dL_law_1008 : decode (dc DL_law) 1008 = .ok (.iaload, 1) := by decide +kernel
theorem dL_law_1009 : decode (dc DL_law) 1009 = .ok (.aload_n 0, 1) := by decide +kernel
theorem dL_law_1010 : decode (dc DL_law) 1010 = .ok (.iload 4, 2) := by decide +kernel
theorem dL_law_1012 : decode (dc DL_law) 1012 = .ok (.iconst 3, 1) := by decide +kernel
theorem dL_law_1013 : decode (dc DL_law) 1013 = .ok (.iadd, 1) := by decide +kernel
theorem dL_law_1014 : decode (dc DL_law) 1014 = .ok (.iaload, 1) := by decide +kernel
theorem dL_law_1015 : decode (dc DL_law) 1015 = .ok (.aload_n 3, 1) := by decide +kernel
theorem dL_law_1016 : decode (dc DL_law) 1016 = .ok (.invokestatic 168, 3) := by decide +kernel
theorem dL_law_1019 : decode (dc DL_law) 1019 = .ok (.istore 5, 2) := by decide +kernel
theorem dL_law_1021 : decode (dc DL_law) 1021 = .ok (.aload_n 2, 1) := by decide +kernel
theorem dL_law_1022 : decode (dc DL_law) 1022 = .ok (.aload_n 0, 1) := by decide +kernel
theorem dL_law_1023 : decode (dc DL_law) 1023 = .ok (.iload 4, 2) := by decide +kernel
theorem dL_law_1025 : decode (dc DL_law) 1025 = .ok (.iconst 1, 1) := by decide +kernel
theorem dL_law_1026 : decode (dc DL_law) 1026 = .ok (.iadd, 1) := by decide +kernel
theorem dL_law_1027 : decode (dc DL_law) 1027 = .ok (.iaload, 1) := by decide +kernel
theorem dL_law_1028 : decode (dc DL_law) 1028 = .ok (.aload_n 0, 1) := by decide +kernel
theorem dL_law_1029 : decode (dc DL_law) 1029 = .ok (.iload 4, 2) := by decide +kernel
theorem dL_law_1031 : decode (dc DL_law) 1031 = .ok (.iconst 2, 1) := by decide +kernel
theorem dL_law_1032 : decode (dc DL_law) 1032 = .ok (.iadd, 1) := by decide +kernel
theorem dL_law_1033 : decode (dc DL_law) 1033 = .ok (.iaload, 1) := by decide +kernel
theorem dL_law_1034 : decode (dc DL_law) 1034 = .ok (.aload_n 0, 1) := by decide +kernel
theorem dL_law_1035 : decode (dc DL_law) 1035 = .ok (.iload 4, 2) := by decide +kernel
theorem dL_law_1037 : decode (dc DL_law) 1037 = .ok (.iconst 3, 1) := by decide +kernel
theorem dL_law_1038 : decode (dc DL_law) 1038 = .ok (.iadd, 1) := by decide +kernel
theorem dL_law_1039 : decode (dc DL_law) 1039 = .ok (.iaload, 1) := by decide +kernel
theorem dL_law_1040 : decode (dc DL_law) 1040 = .ok (.invokevirtual 171, 3) := by decide +kernel
theorem dL_law_1043 : decode (dc DL_law) 1043 = .ok (.istore 6, 2) := by decide +kernel
theorem dL_law_1045 : decode (dc DL_law) 1045 = .ok (.aload_n 2, 1) := by decide +kernel
theorem dL_law_1046 : decode (dc DL_law) 1046 = .ok (.invokevirtual 121, 3) := by decide +kernel
theorem dL_law_1049 : decode (dc DL_law) 1049 = .ok (.iload 5, 2) := by decide +kernel
theorem dL_law_1051 : decode (dc DL_law) 1051 = .ok (.if_icmp .eq 5, 3) := by decide +kernel
theorem dL_law_1054 : decode (dc DL_law) 1054 = .ok (.iconst 0, 1) := by decide +kernel
theorem dL_law_1055 : decode (dc DL_law) 1055 = .ok (.ireturn, 1) := by decide +kernel
theorem dL_law_1056 : decode (dc DL_law) 1056 = .ok (.iload 5, 2) := by decide +kernel
theorem dL_law_1058 : decode (dc DL_law) 1058 = .ok (.ifCond .ne 15, 3) := by decide +kernel
theorem dL_law_1061 : decode (dc DL_law) 1061 = .ok (.aload_n 3, 1) := by decide +kernel
theorem dL_law_1062 : decode (dc DL_law) 1062 = .ok (.iconst 0, 1) := by decide +kernel
theorem dL_law_1063 : decode (dc DL_law) 1063 = .ok (.laload, 1) := by decide +kernel
theorem dL_law_1064 : decode (dc DL_law) 1064 = .ok (.iload 6, 2) := by decide +kernel
theorem dL_law_1066 : decode (dc DL_law) 1066 = .ok (.i2l, 1) := by decide +kernel
theorem dL_law_1067 : decode (dc DL_law) 1067 = .ok (.lcmp, 1) := by decide +kernel
theorem dL_law_1068 : decode (dc DL_law) 1068 = .ok (.ifCond .eq 5, 3) := by decide +kernel
theorem dL_law_1071 : decode (dc DL_law) 1071 = .ok (.iconst 0, 1) := by decide +kernel
theorem dL_law_1072 : decode (dc DL_law) 1072 = .ok (.ireturn, 1) := by decide +kernel
theorem dL_law_1073 : decode (dc DL_law) 1073 = .ok (.goto 1224, 3) := by decide +kernel
theorem dL_law_1076 : decode (dc DL_law) 1076 = .ok (.aload_n 1, 1) := by decide +kernel
theorem dL_law_1077 : decode (dc DL_law) 1077 = .ok (.aload_n 0, 1) := by decide +kernel
theorem dL_law_1078 : decode (dc DL_law) 1078 = .ok (.iload 4, 2) := by decide +kernel
theorem dL_law_1080 : decode (dc DL_law) 1080 = .ok (.iconst 1, 1) := by decide +kernel
theorem dL_law_1081 : decode (dc DL_law) 1081 = .ok (.iadd, 1) := by decide +kernel
theorem dL_law_1082 : decode (dc DL_law) 1082 = .ok (.iaload, 1) := by decide +kernel
theorem dL_law_1083 : decode (dc DL_law) 1083 = .ok (.aload_n 0, 1) := by decide +kernel
theorem dL_law_1084 : decode (dc DL_law) 1084 = .ok (.iload 4, 2) := by decide +kernel
theorem dL_law_1086 : decode (dc DL_law) 1086 = .ok (.iconst 2, 1) := by decide +kernel
theorem dL_law_1087 : decode (dc DL_law) 1087 = .ok (.iadd, 1) := by decide +kernel
theorem dL_law_1088 : decode (dc DL_law) 1088 = .ok (.iaload, 1) := by decide +kernel
theorem dL_law_1089 : decode (dc DL_law) 1089 = .ok (.aload_n 3, 1) := by decide +kernel
theorem dL_law_1090 : decode (dc DL_law) 1090 = .ok (.invokestatic 172, 3) := by decide +kernel
theorem dL_law_1093 : decode (dc DL_law) 1093 = .ok (.istore 5, 2) := by decide +kernel
theorem dL_law_1095 : decode (dc DL_law) 1095 = .ok (.aload_n 2, 1) := by decide +kernel
theorem dL_law_1096 : decode (dc DL_law) 1096 = .ok (.aload_n 0, 1) := by decide +kernel
theorem dL_law_1097 : decode (dc DL_law) 1097 = .ok (.iload 4, 2) := by decide +kernel
theorem dL_law_1099 : decode (dc DL_law) 1099 = .ok (.iconst 1, 1) := by decide +kernel
theorem dL_law_1100 : decode (dc DL_law) 1100 = .ok (.iadd, 1) := by decide +kernel
theorem dL_law_1101 : decode (dc DL_law) 1101 = .ok (.iaload, 1) := by decide +kernel
theorem dL_law_1102 : decode (dc DL_law) 1102 = .ok (.aload_n 0, 1) := by decide +kernel
theorem dL_law_1103 : decode (dc DL_law) 1103 = .ok (.iload 4, 2) := by decide +kernel
theorem dL_law_1105 : decode (dc DL_law) 1105 = .ok (.iconst 2, 1) := by decide +kernel
theorem dL_law_1106 : decode (dc DL_law) 1106 = .ok (.iadd, 1) := by decide +kernel
theorem dL_law_1107 : decode (dc DL_law) 1107 = .ok (.iaload, 1) := by decide +kernel
theorem dL_law_1108 : decode (dc DL_law) 1108 = .ok (.invokevirtual 174, 3) := by decide +kernel
theorem dL_law_1111 : decode (dc DL_law) 1111 = .ok (.istore 6, 2) := by decide +kernel
theorem dL_law_1113 : decode (dc DL_law) 1113 = .ok (.aload_n 2, 1) := by decide +kernel
theorem dL_law_1114 : decode (dc DL_law) 1114 = .ok (.invokevirtual 121, 3) := by decide +kernel
theorem dL_law_1117 : decode (dc DL_law) 1117 = .ok (.iload 5, 2) := by decide +kernel
theorem dL_law_1119 : decode (dc DL_law) 1119 = .ok (.if_icmp .eq 5, 3) := by decide +kernel
theorem dL_law_1122 : decode (dc DL_law) 1122 = .ok (.iconst 0, 1) := by decide +kernel
theorem dL_law_1123 : decode (dc DL_law) 1123 = .ok (.ireturn, 1) := by decide +kernel
theorem dL_law_1124 : decode (dc DL_law) 1124 = .ok (.iload 5, 2) := by decide +kernel
theorem dL_law_1126 : decode (dc DL_law) 1126 = .ok (.ifCond .ne 15, 3) := by decide +kernel
theorem dL_law_1129 : decode (dc DL_law) 1129 = .ok (.aload_n 3, 1) := by decide +kernel
theorem dL_law_1130 : decode (dc DL_law) 1130 = .ok (.iconst 0, 1) := by decide +kernel
theorem dL_law_1131 : decode (dc DL_law) 1131 = .ok (.laload, 1) := by decide +kernel
theorem dL_law_1132 : decode (dc DL_law) 1132 = .ok (.iload 6, 2) := by decide +kernel
theorem dL_law_1134 : decode (dc DL_law) 1134 = .ok (.i2l, 1) := by decide +kernel
theorem dL_law_1135 : decode (dc DL_law) 1135 = .ok (.lcmp, 1) := by decide +kernel
theorem dL_law_1136 : decode (dc DL_law) 1136 = .ok (.ifCond .eq 5, 3) := by decide +kernel
theorem dL_law_1139 : decode (dc DL_law) 1139 = .ok (.iconst 0, 1) := by decide +kernel
theorem dL_law_1140 : decode (dc DL_law) 1140 = .ok (.ireturn, 1) := by decide +kernel
theorem dL_law_1141 : decode (dc DL_law) 1141 = .ok (.goto 1156, 3) := by decide +kernel
theorem dL_law_1144 : decode (dc DL_law) 1144 = .ok (.aload_n 1, 1) := by decide +kernel
theorem dL_law_1145 : decode (dc DL_law) 1145 = .ok (.aload_n 0, 1) := by decide +kernel
theorem dL_law_1146 : decode (dc DL_law) 1146 = .ok (.iload 4, 2) := by decide +kernel
theorem dL_law_1148 : decode (dc DL_law) 1148 = .ok (.iconst 1, 1) := by decide +kernel
theorem dL_law_1149 : decode (dc DL_law) 1149 = .ok (.iadd, 1) := by decide +kernel
theorem dL_law_1150 : decode (dc DL_law) 1150 = .ok (.iaload, 1) := by decide +kernel
theorem dL_law_1151 : decode (dc DL_law) 1151 = .ok (.aload_n 3, 1) := by decide +kernel
theorem dL_law_1152 : decode (dc DL_law) 1152 = .ok (.invokestatic 175, 3) := by decide +kernel
theorem dL_law_1155 : decode (dc DL_law) 1155 = .ok (.istore 5, 2) := by decide +kernel
theorem dL_law_1157 : decode (dc DL_law) 1157 = .ok (.aload_n 2, 1) := by decide +kernel
theorem dL_law_1158 : decode (dc DL_law) 1158 = .ok (.aload_n 0, 1) := by decide +kernel
theorem dL_law_1159 : decode (dc DL_law) 1159 = .ok (.iload 4, 2) := by decide +kernel
theorem dL_law_1161 : decode (dc DL_law) 1161 = .ok (.iconst 1, 1) := by decide +kernel
theorem dL_law_1162 : decode (dc DL_law) 1162 = .ok (.iadd, 1) := by decide +kernel
theorem dL_law_1163 : decode (dc DL_law) 1163 = .ok (.iaload, 1) := by decide +kernel
theorem dL_law_1164 : decode (dc DL_law) 1164 = .ok (.invokevirtual 177, 3) := by decide +kernel
theorem dL_law_1167 : decode (dc DL_law) 1167 = .ok (.istore 6, 2) := by decide +kernel
theorem dL_law_1169 : decode (dc DL_law) 1169 = .ok (.aload_n 2, 1) := by decide +kernel
theorem dL_law_1170 : decode (dc DL_law) 1170 = .ok (.invokevirtual 121, 3) := by decide +kernel
theorem dL_law_1173 : decode (dc DL_law) 1173 = .ok (.iload 5, 2) := by decide +kernel
theorem dL_law_1175 : decode (dc DL_law) 1175 = .ok (.if_icmp .eq 5, 3) := by decide +kernel
theorem dL_law_1178 : decode (dc DL_law) 1178 = .ok (.iconst 0, 1) := by decide +kernel
theorem dL_law_1179 : decode (dc DL_law) 1179 = .ok (.ireturn, 1) := by decide +kernel
theorem dL_law_1180 : decode (dc DL_law) 1180 = .ok (.iload 5, 2) := by decide +kernel
theorem dL_law_1182 : decode (dc DL_law) 1182 = .ok (.ifCond .ne 15, 3) := by decide +kernel
theorem dL_law_1185 : decode (dc DL_law) 1185 = .ok (.aload_n 3, 1) := by decide +kernel
theorem dL_law_1186 : decode (dc DL_law) 1186 = .ok (.iconst 0, 1) := by decide +kernel
theorem dL_law_1187 : decode (dc DL_law) 1187 = .ok (.laload, 1) := by decide +kernel
theorem dL_law_1188 : decode (dc DL_law) 1188 = .ok (.iload 6, 2) := by decide +kernel
theorem dL_law_1190 : decode (dc DL_law) 1190 = .ok (.i2l, 1) := by decide +kernel
theorem dL_law_1191 : decode (dc DL_law) 1191 = .ok (.lcmp, 1) := by decide +kernel
theorem dL_law_1192 : decode (dc DL_law) 1192 = .ok (.ifCond .eq 5, 3) := by decide +kernel
theorem dL_law_1195 : decode (dc DL_law) 1195 = .ok (.iconst 0, 1) := by decide +kernel
theorem dL_law_1196 : decode (dc DL_law) 1196 = .ok (.ireturn, 1) := by decide +kernel
theorem dL_law_1197 : decode (dc DL_law) 1197 = .ok (.goto 1100, 3) := by decide +kernel
theorem dL_law_1200 : decode (dc DL_law) 1200 = .ok (.aload_n 1, 1) := by decide +kernel
theorem dL_law_1201 : decode (dc DL_law) 1201 = .ok (.aload_n 0, 1) := by decide +kernel
theorem dL_law_1202 : decode (dc DL_law) 1202 = .ok (.iload 4, 2) := by decide +kernel
theorem dL_law_1204 : decode (dc DL_law) 1204 = .ok (.iconst 1, 1) := by decide +kernel
theorem dL_law_1205 : decode (dc DL_law) 1205 = .ok (.iadd, 1) := by decide +kernel
theorem dL_law_1206 : decode (dc DL_law) 1206 = .ok (.iaload, 1) := by decide +kernel
theorem dL_law_1207 : decode (dc DL_law) 1207 = .ok (.aload_n 3, 1) := by decide +kernel
theorem dL_law_1208 : decode (dc DL_law) 1208 = .ok (.invokestatic 178, 3) := by decide +kernel
theorem dL_law_1211 : decode (dc DL_law) 1211 = .ok (.istore 5, 2) := by decide +kernel
theorem dL_law_1213 : decode (dc DL_law) 1213 = .ok (.aload_n 2, 1) := by decide +kernel
theorem dL_law_1214 : decode (dc DL_law) 1214 = .ok (.aload_n 0, 1) := by decide +kernel
theorem dL_law_1215 : decode (dc DL_law) 1215 = .ok (.iload 4, 2) := by decide +kernel
theorem dL_law_1217 : decode (dc DL_law) 1217 = .ok (.iconst 1, 1) := by decide +kernel
theorem dL_law_1218 : decode (dc DL_law) 1218 = .ok (.iadd, 1) := by decide +kernel
theorem dL_law_1219 : decode (dc DL_law) 1219 = .ok (.iaload, 1) := by decide +kernel
theorem dL_law_1220 : decode (dc DL_law) 1220 = .ok (.invokevirtual 180, 3) := by decide +kernel
theorem dL_law_1223 : decode (dc DL_law) 1223 = .ok (.istore 6, 2) := by decide +kernel
theorem dL_law_1225 : decode (dc DL_law) 1225 = .ok (.aload_n 2, 1) := by decide +kernel
theorem dL_law_1226 : decode (dc DL_law) 1226 = .ok (.invokevirtual 121, 3) := by decide +kernel
theorem dL_law_1229 : decode (dc DL_law) 1229 = .ok (.iload 5, 2) := by decide +kernel
theorem dL_law_1231 : decode (dc DL_law) 1231 = .ok (.if_icmp .eq 5, 3) := by decide +kernel
theorem dL_law_1234 : decode (dc DL_law) 1234 = .ok (.iconst 0, 1) := by decide +kernel
theorem dL_law_1235 : decode (dc DL_law) 1235 = .ok (.ireturn, 1) := by decide +kernel
theorem dL_law_1236 : decode (dc DL_law) 1236 = .ok (.iload 5, 2) := by decide +kernel
theorem dL_law_1238 : decode (dc DL_law) 1238 = .ok (.ifCond .ne 15, 3) := by decide +kernel
theorem dL_law_1241 : decode (dc DL_law) 1241 = .ok (.aload_n 3, 1) := by decide +kernel
theorem dL_law_1242 : decode (dc DL_law) 1242 = .ok (.iconst 0, 1) := by decide +kernel
theorem dL_law_1243 : decode (dc DL_law) 1243 = .ok (.laload, 1) := by decide +kernel
theorem dL_law_1244 : decode (dc DL_law) 1244 = .ok (.iload 6, 2) := by decide +kernel
theorem dL_law_1246 : decode (dc DL_law) 1246 = .ok (.i2l, 1) := by decide +kernel
theorem dL_law_1247 : decode (dc DL_law) 1247 = .ok (.lcmp, 1) := by decide +kernel
theorem dL_law_1248 : decode (dc DL_law) 1248 = .ok (.ifCond .eq 5, 3) := by decide +kernel
theorem dL_law_1251 : decode (dc DL_law) 1251 = .ok (.iconst 0, 1) := by decide +kernel
theorem dL_law_1252 : decode (dc DL_law) 1252 = .ok (.ireturn, 1) := by decide +kernel
theorem dL_law_1253 : decode (dc DL_law) 1253 = .ok (.goto 1044, 3) := by decide +kernel
theorem dL_law_1256 : decode (dc DL_law) 1256 = .ok (.aload_n 1, 1) := by decide +kernel
theorem dL_law_1257 : decode (dc DL_law) 1257 = .ok (.aload_n 0, 1) := by decide +kernel
theorem dL_law_1258 : decode (dc DL_law) 1258 = .ok (.iload 4, 2) := by decide +kernel
theorem dL_law_1260 : decode (dc DL_law) 1260 = .ok (.iconst 1, 1) := by decide +kernel
theorem dL_law_1261 : decode (dc DL_law) 1261 = .ok (.iadd, 1) := by decide +kernel
theorem dL_law_1262 : decode (dc DL_law) 1262 = .ok (.iaload, 1) := by decide +kernel
theorem dL_law_1263 : decode (dc DL_law) 1263 = .ok (.aload_n 3, 1) := by decide +kernel
theorem dL_law_1264 : decode (dc DL_law) 1264 = .ok (.invokestatic 181, 3) := by decide +kernel
theorem dL_law_1267 : decode (dc DL_law) 1267 = .ok (.istore 5, 2) := by decide +kernel
theorem dL_law_1269 : decode (dc DL_law) 1269 = .ok (.aload_n 2, 1) := by decide +kernel
theorem dL_law_1270 : decode (dc DL_law) 1270 = .ok (.aload_n 0, 1) := by decide +kernel
theorem dL_law_1271 : decode (dc DL_law) 1271 = .ok (.iload 4, 2) := by decide +kernel
theorem dL_law_1273 : decode (dc DL_law) 1273 = .ok (.iconst 1, 1) := by decide +kernel
theorem dL_law_1274 : decode (dc DL_law) 1274 = .ok (.iadd, 1) := by decide +kernel
theorem dL_law_1275 : decode (dc DL_law) 1275 = .ok (.iaload, 1) := by decide +kernel
theorem dL_law_1276 : decode (dc DL_law) 1276 = .ok (.invokevirtual 183, 3) := by decide +kernel
theorem dL_law_1279 : decode (dc DL_law) 1279 = .ok (.istore 6, 2) := by decide +kernel
theorem dL_law_1281 : decode (dc DL_law) 1281 = .ok (.aload_n 2, 1) := by decide +kernel
theorem dL_law_1282 : decode (dc DL_law) 1282 = .ok (.invokevirtual 121, 3) := by decide +kernel
theorem dL_law_1285 : decode (dc DL_law) 1285 = .ok (.iload 5, 2) := by decide +kernel
theorem dL_law_1287 : decode (dc DL_law) 1287 = .ok (.if_icmp .eq 5, 3) := by decide +kernel
theorem dL_law_1290 : decode (dc DL_law) 1290 = .ok (.iconst 0, 1) := by decide +kernel
theorem dL_law_1291 : decode (dc DL_law) 1291 = .ok (.ireturn, 1) := by decide +kernel
theorem dL_law_1292 : decode (dc DL_law) 1292 = .ok (.iload 5, 2) := by decide +kernel
theorem dL_law_1294 : decode (dc DL_law) 1294 = .ok (.ifCond .ne 15, 3) := by decide +kernel
theorem dL_law_1297 : decode (dc DL_law) 1297 = .ok (.aload_n 3, 1) := by decide +kernel
theorem dL_law_1298 : decode (dc DL_law) 1298 = .ok (.iconst 0, 1) := by decide +kernel
theorem dL_law_1299 : decode (dc DL_law) 1299 = .ok (.laload, 1) := by decide +kernel
theorem dL_law_1300 : decode (dc DL_law) 1300 = .ok (.iload 6, 2) := by decide +kernel
theorem dL_law_1302 : decode (dc DL_law) 1302 = .ok (.i2l, 1) := by decide +kernel
theorem dL_law_1303 : decode (dc DL_law) 1303 = .ok (.lcmp, 1) := by decide +kernel
theorem dL_law_1304 : decode (dc DL_law) 1304 = .ok (.ifCond .eq 5, 3) := by decide +kernel
theorem dL_law_1307 : decode (dc DL_law) 1307 = .ok (.iconst 0, 1) := by decide +kernel
theorem dL_law_1308 : decode (dc DL_law) 1308 = .ok (.ireturn, 1) := by decide +kernel
theorem dL_law_1309 : decode (dc DL_law) 1309 = .ok (.goto 988, 3) := by decide +kernel
theorem dL_law_1312 : decode (dc DL_law) 1312 = .ok (.aload_n 1, 1) := by decide +kernel
theorem dL_law_1313 : decode (dc DL_law) 1313 = .ok (.invokevirtual 184, 3) := by decide +kernel
theorem dL_law_1316 : decode (dc DL_law) 1316 = .ok (.aload_n 2, 1) := by decide +kernel
theorem dL_law_1317 : decode (dc DL_law) 1317 = .ok (.invokevirtual 188, 3) := by decide +kernel
theorem dL_law_1320 : decode (dc DL_law) 1320 = .ok (.lcmp, 1) := by decide +kernel
theorem dL_law_1321 : decode (dc DL_law) 1321 = .ok (.ifCond .eq 976, 3) := by decide +kernel
theorem dL_law_1324 : decode (dc DL_law) 1324 = .ok (.iconst 0, 1) := by decide +kernel
theorem dL_law_1325 : decode (dc DL_law) 1325 = .ok (.ireturn, 1) := by decide +kernel
theorem dL_law_1326 : decode (dc DL_law) 1326 = .ok (.aload_n 1, 1) := by decide +kernel
theorem dL_law_1327 : decode (dc DL_law) 1327 = .ok (.aload_n 0, 1) := by decide +kernel
theorem dL_law_1328 : decode (dc DL_law) 1328 = .ok (.iload 4, 2) := by decide +kernel
theorem dL_law_1330 : decode (dc DL_law) 1330 = .ok (.iconst 1, 1) := by decide +kernel
theorem dL_law_1331 : decode (dc DL_law) 1331 = .ok (.iadd, 1) := by decide +kernel
theorem dL_law_1332 : decode (dc DL_law) 1332 = .ok (.iaload, 1) := by decide +kernel
theorem dL_law_1333 : decode (dc DL_law) 1333 = .ok (.aload_n 3, 1) := by decide +kernel
theorem dL_law_1334 : decode (dc DL_law) 1334 = .ok (.invokestatic 189, 3) := by decide +kernel
theorem dL_law_1337 : decode (dc DL_law) 1337 = .ok (.istore 5, 2) := by decide +kernel
theorem dL_law_1339 : decode (dc DL_law) 1339 = .ok (.aload_n 2, 1) := by decide +kernel
theorem dL_law_1340 : decode (dc DL_law) 1340 = .ok (.aload_n 0, 1) := by decide +kernel
theorem dL_law_1341 : decode (dc DL_law) 1341 = .ok (.iload 4, 2) := by decide +kernel
theorem dL_law_1343 : decode (dc DL_law) 1343 = .ok (.iconst 1, 1) := by decide +kernel
theorem dL_law_1344 : decode (dc DL_law) 1344 = .ok (.iadd, 1) := by decide +kernel
theorem dL_law_1345 : decode (dc DL_law) 1345 = .ok (.iaload, 1) := by decide +kernel
theorem dL_law_1346 : decode (dc DL_law) 1346 = .ok (.invokevirtual 191, 3) := by decide +kernel
theorem dL_law_1349 : decode (dc DL_law) 1349 = .ok (.istore 6, 2) := by decide +kernel
theorem dL_law_1351 : decode (dc DL_law) 1351 = .ok (.aload_n 2, 1) := by decide +kernel
theorem dL_law_1352 : decode (dc DL_law) 1352 = .ok (.invokevirtual 121, 3) := by decide +kernel
theorem dL_law_1355 : decode (dc DL_law) 1355 = .ok (.iload 5, 2) := by decide +kernel
theorem dL_law_1357 : decode (dc DL_law) 1357 = .ok (.if_icmp .eq 5, 3) := by decide +kernel
theorem dL_law_1360 : decode (dc DL_law) 1360 = .ok (.iconst 0, 1) := by decide +kernel
theorem dL_law_1361 : decode (dc DL_law) 1361 = .ok (.ireturn, 1) := by decide +kernel
theorem dL_law_1362 : decode (dc DL_law) 1362 = .ok (.iload 5, 2) := by decide +kernel
theorem dL_law_1364 : decode (dc DL_law) 1364 = .ok (.ifCond .ne 15, 3) := by decide +kernel
theorem dL_law_1367 : decode (dc DL_law) 1367 = .ok (.aload_n 3, 1) := by decide +kernel
theorem dL_law_1368 : decode (dc DL_law) 1368 = .ok (.iconst 0, 1) := by decide +kernel
theorem dL_law_1369 : decode (dc DL_law) 1369 = .ok (.laload, 1) := by decide +kernel
theorem dL_law_1370 : decode (dc DL_law) 1370 = .ok (.iload 6, 2) := by decide +kernel
theorem dL_law_1372 : decode (dc DL_law) 1372 = .ok (.i2l, 1) := by decide +kernel
theorem dL_law_1373 : decode (dc DL_law) 1373 = .ok (.lcmp, 1) := by decide +kernel
theorem dL_law_1374 : decode (dc DL_law) 1374 = .ok (.ifCond .eq 5, 3) := by decide +kernel
theorem dL_law_1377 : decode (dc DL_law) 1377 = .ok (.iconst 0, 1) := by decide +kernel
theorem dL_law_1378 : decode (dc DL_law) 1378 = .ok (.ireturn, 1) := by decide +kernel
theorem dL_law_1379 : decode (dc DL_law) 1379 = .ok (.goto 918, 3) := by decide +kernel
theorem dL_law_1382 : decode (dc DL_law) 1382 = .ok (.aload_n 1, 1) := by decide +kernel
theorem dL_law_1383 : decode (dc DL_law) 1383 = .ok (.aload_n 0, 1) := by decide +kernel
theorem dL_law_1384 : decode (dc DL_law) 1384 = .ok (.iload 4, 2) := by decide +kernel
theorem dL_law_1386 : decode (dc DL_law) 1386 = .ok (.iconst 1, 1) := by decide +kernel
theorem dL_law_1387 : decode (dc DL_law) 1387 = .ok (.iadd, 1) := by decide +kernel
theorem dL_law_1388 : decode (dc DL_law) 1388 = .ok (.iaload, 1) := by decide +kernel
theorem dL_law_1389 : decode (dc DL_law) 1389 = .ok (.aload_n 3, 1) := by decide +kernel
theorem dL_law_1390 : decode (dc DL_law) 1390 = .ok (.invokestatic 192, 3) := by decide +kernel
theorem dL_law_1393 : decode (dc DL_law) 1393 = .ok (.istore 5, 2) := by decide +kernel
theorem dL_law_1395 : decode (dc DL_law) 1395 = .ok (.aload_n 2, 1) := by decide +kernel
theorem dL_law_1396 : decode (dc DL_law) 1396 = .ok (.aload_n 0, 1) := by decide +kernel
theorem dL_law_1397 : decode (dc DL_law) 1397 = .ok (.iload 4, 2) := by decide +kernel
theorem dL_law_1399 : decode (dc DL_law) 1399 = .ok (.iconst 1, 1) := by decide +kernel
theorem dL_law_1400 : decode (dc DL_law) 1400 = .ok (.iadd, 1) := by decide +kernel
theorem dL_law_1401 : decode (dc DL_law) 1401 = .ok (.iaload, 1) := by decide +kernel
theorem dL_law_1402 : decode (dc DL_law) 1402 = .ok (.invokevirtual 194, 3) := by decide +kernel
theorem dL_law_1405 : decode (dc DL_law) 1405 = .ok (.istore 6, 2) := by decide +kernel
theorem dL_law_1407 : decode (dc DL_law) 1407 = .ok (.aload_n 2, 1) := by decide +kernel
theorem dL_law_1408 : decode (dc DL_law) 1408 = .ok (.invokevirtual 121, 3) := by decide +kernel
theorem dL_law_1411 : decode (dc DL_law) 1411 = .ok (.iload 5, 2) := by decide +kernel
theorem dL_law_1413 : decode (dc DL_law) 1413 = .ok (.if_icmp .eq 5, 3) := by decide +kernel
theorem dL_law_1416 : decode (dc DL_law) 1416 = .ok (.iconst 0, 1) := by decide +kernel
theorem dL_law_1417 : decode (dc DL_law) 1417 = .ok (.ireturn, 1) := by decide +kernel
theorem dL_law_1418 : decode (dc DL_law) 1418 = .ok (.iload 5, 2) := by decide +kernel
theorem dL_law_1420 : decode (dc DL_law) 1420 = .ok (.ifCond .ne 15, 3) := by decide +kernel
theorem dL_law_1423 : decode (dc DL_law) 1423 = .ok (.aload_n 3, 1) := by decide +kernel
theorem dL_law_1424 : decode (dc DL_law) 1424 = .ok (.iconst 0, 1) := by decide +kernel
theorem dL_law_1425 : decode (dc DL_law) 1425 = .ok (.laload, 1) := by decide +kernel
theorem dL_law_1426 : decode (dc DL_law) 1426 = .ok (.iload 6, 2) := by decide +kernel
theorem dL_law_1428 : decode (dc DL_law) 1428 = .ok (.i2l, 1) := by decide +kernel
theorem dL_law_1429 : decode (dc DL_law) 1429 = .ok (.lcmp, 1) := by decide +kernel
theorem dL_law_1430 : decode (dc DL_law) 1430 = .ok (.ifCond .eq 5, 3) := by decide +kernel
theorem dL_law_1433 : decode (dc DL_law) 1433 = .ok (.iconst 0, 1) := by decide +kernel
theorem dL_law_1434 : decode (dc DL_law) 1434 = .ok (.ireturn, 1) := by decide +kernel
theorem dL_law_1435 : decode (dc DL_law) 1435 = .ok (.goto 862, 3) := by decide +kernel
theorem dL_law_1438 : decode (dc DL_law) 1438 = .ok (.aload_n 1, 1) := by decide +kernel
theorem dL_law_1439 : decode (dc DL_law) 1439 = .ok (.invokevirtual 195, 3) := by decide +kernel
theorem dL_law_1442 : decode (dc DL_law) 1442 = .ok (.aload_n 2, 1) := by decide +kernel
theorem dL_law_1443 : decode (dc DL_law) 1443 = .ok (.invokevirtual 198, 3) := by decide +kernel
theorem dL_law_1446 : decode (dc DL_law) 1446 = .ok (.if_icmp .eq 851, 3) := by decide +kernel
theorem dL_law_1449 : decode (dc DL_law) 1449 = .ok (.iconst 0, 1) := by decide +kernel
theorem dL_law_1450 : decode (dc DL_law) 1450 = .ok (.ireturn, 1) := by decide +kernel
theorem dL_law_1451 : decode (dc DL_law) 1451 = .ok (.aload_n 1, 1) := by decide +kernel
theorem dL_law_1452 : decode (dc DL_law) 1452 = .ok (.aload_n 0, 1) := by decide +kernel
theorem dL_law_1453 : decode (dc DL_law) 1453 = .ok (.iload 4, 2) := by decide +kernel
theorem dL_law_1455 : decode (dc DL_law) 1455 = .ok (.iconst 1, 1) := by decide +kernel
theorem dL_law_1456 : decode (dc DL_law) 1456 = .ok (.iadd, 1) := by decide +kernel
theorem dL_law_1457 : decode (dc DL_law) 1457 = .ok (.iaload, 1) := by decide +kernel
theorem dL_law_1458 : decode (dc DL_law) 1458 = .ok (.aload_n 3, 1) := by decide +kernel
theorem dL_law_1459 : decode (dc DL_law) 1459 = .ok (.invokestatic 199, 3) := by decide +kernel
theorem dL_law_1462 : decode (dc DL_law) 1462 = .ok (.istore 5, 2) := by decide +kernel
theorem dL_law_1464 : decode (dc DL_law) 1464 = .ok (.aload_n 2, 1) := by decide +kernel
theorem dL_law_1465 : decode (dc DL_law) 1465 = .ok (.aload_n 0, 1) := by decide +kernel
theorem dL_law_1466 : decode (dc DL_law) 1466 = .ok (.iload 4, 2) := by decide +kernel
theorem dL_law_1468 : decode (dc DL_law) 1468 = .ok (.iconst 1, 1) := by decide +kernel
theorem dL_law_1469 : decode (dc DL_law) 1469 = .ok (.iadd, 1) := by decide +kernel
theorem dL_law_1470 : decode (dc DL_law) 1470 = .ok (.iaload, 1) := by decide +kernel
theorem dL_law_1471 : decode (dc DL_law) 1471 = .ok (.invokevirtual 201, 3) := by decide +kernel
theorem dL_law_1474 : decode (dc DL_law) 1474 = .ok (.istore 6, 2) := by decide +kernel
theorem dL_law_1476 : decode (dc DL_law) 1476 = .ok (.aload_n 2, 1) := by decide +kernel
theorem dL_law_1477 : decode (dc DL_law) 1477 = .ok (.invokevirtual 121, 3) := by decide +kernel
theorem dL_law_1480 : decode (dc DL_law) 1480 = .ok (.iload 5, 2) := by decide +kernel
theorem dL_law_1482 : decode (dc DL_law) 1482 = .ok (.if_icmp .eq 5, 3) := by decide +kernel
theorem dL_law_1485 : decode (dc DL_law) 1485 = .ok (.iconst 0, 1) := by decide +kernel
theorem dL_law_1486 : decode (dc DL_law) 1486 = .ok (.ireturn, 1) := by decide +kernel
theorem dL_law_1487 : decode (dc DL_law) 1487 = .ok (.iload 5, 2) := by decide +kernel
theorem dL_law_1489 : decode (dc DL_law) 1489 = .ok (.ifCond .ne 15, 3) := by decide +kernel
theorem dL_law_1492 : decode (dc DL_law) 1492 = .ok (.aload_n 3, 1) := by decide +kernel
theorem dL_law_1493 : decode (dc DL_law) 1493 = .ok (.iconst 0, 1) := by decide +kernel
theorem dL_law_1494 : decode (dc DL_law) 1494 = .ok (.laload, 1) := by decide +kernel
theorem dL_law_1495 : decode (dc DL_law) 1495 = .ok (.iload 6, 2) := by decide +kernel
theorem dL_law_1497 : decode (dc DL_law) 1497 = .ok (.i2l, 1) := by decide +kernel
theorem dL_law_1498 : decode (dc DL_law) 1498 = .ok (.lcmp, 1) := by decide +kernel
theorem dL_law_1499 : decode (dc DL_law) 1499 = .ok (.ifCond .eq 5, 3) := by decide +kernel
theorem dL_law_1502 : decode (dc DL_law) 1502 = .ok (.iconst 0, 1) := by decide +kernel
theorem dL_law_1503 : decode (dc DL_law) 1503 = .ok (.ireturn, 1) := by decide +kernel
theorem dL_law_1504 : decode (dc DL_law) 1504 = .ok (.goto 793, 3) := by decide +kernel
theorem dL_law_1507 : decode (dc DL_law) 1507 = .ok (.aload_n 1, 1) := by decide +kernel
theorem dL_law_1508 : decode (dc DL_law) 1508 = .ok (.aload_n 0, 1) := by decide +kernel
theorem dL_law_1509 : decode (dc DL_law) 1509 = .ok (.iload 4, 2) := by decide +kernel
theorem dL_law_1511 : decode (dc DL_law) 1511 = .ok (.iconst 1, 1) := by decide +kernel
theorem dL_law_1512 : decode (dc DL_law) 1512 = .ok (.iadd, 1) := by decide +kernel
theorem dL_law_1513 : decode (dc DL_law) 1513 = .ok (.iaload, 1) := by decide +kernel
theorem dL_law_1514 : decode (dc DL_law) 1514 = .ok (.aload_n 3, 1) := by decide +kernel
theorem dL_law_1515 : decode (dc DL_law) 1515 = .ok (.invokestatic 202, 3) := by decide +kernel
theorem dL_law_1518 : decode (dc DL_law) 1518 = .ok (.istore 5, 2) := by decide +kernel
theorem dL_law_1520 : decode (dc DL_law) 1520 = .ok (.aload_n 2, 1) := by decide +kernel
theorem dL_law_1521 : decode (dc DL_law) 1521 = .ok (.aload_n 0, 1) := by decide +kernel
theorem dL_law_1522 : decode (dc DL_law) 1522 = .ok (.iload 4, 2) := by decide +kernel
theorem dL_law_1524 : decode (dc DL_law) 1524 = .ok (.iconst 1, 1) := by decide +kernel
theorem dL_law_1525 : decode (dc DL_law) 1525 = .ok (.iadd, 1) := by decide +kernel
theorem dL_law_1526 : decode (dc DL_law) 1526 = .ok (.iaload, 1) := by decide +kernel
theorem dL_law_1527 : decode (dc DL_law) 1527 = .ok (.invokevirtual 204, 3) := by decide +kernel
theorem dL_law_1530 : decode (dc DL_law) 1530 = .ok (.istore 6, 2) := by decide +kernel
theorem dL_law_1532 : decode (dc DL_law) 1532 = .ok (.aload_n 2, 1) := by decide +kernel
theorem dL_law_1533 : decode (dc DL_law) 1533 = .ok (.invokevirtual 121, 3) := by decide +kernel
theorem dL_law_1536 : decode (dc DL_law) 1536 = .ok (.iload 5, 2) := by decide +kernel
theorem dL_law_1538 : decode (dc DL_law) 1538 = .ok (.if_icmp .eq 5, 3) := by decide +kernel
theorem dL_law_1541 : decode (dc DL_law) 1541 = .ok (.iconst 0, 1) := by decide +kernel
theorem dL_law_1542 : decode (dc DL_law) 1542 = .ok (.ireturn, 1) := by decide +kernel
theorem dL_law_1543 : decode (dc DL_law) 1543 = .ok (.iload 5, 2) := by decide +kernel
theorem dL_law_1545 : decode (dc DL_law) 1545 = .ok (.ifCond .ne 15, 3) := by decide +kernel
theorem dL_law_1548 : decode (dc DL_law) 1548 = .ok (.aload_n 3, 1) := by decide +kernel
theorem dL_law_1549 : decode (dc DL_law) 1549 = .ok (.iconst 0, 1) := by decide +kernel
theorem dL_law_1550 : decode (dc DL_law) 1550 = .ok (.laload, 1) := by decide +kernel
theorem dL_law_1551 : decode (dc DL_law) 1551 = .ok (.iload 6, 2) := by decide +kernel
theorem dL_law_1553 : decode (dc DL_law) 1553 = .ok (.i2l, 1) := by decide +kernel
theorem dL_law_1554 : decode (dc DL_law) 1554 = .ok (.lcmp, 1) := by decide +kernel
theorem dL_law_1555 : decode (dc DL_law) 1555 = .ok (.ifCond .eq 5, 3) := by decide +kernel
theorem dL_law_1558 : decode (dc DL_law) 1558 = .ok (.iconst 0, 1) := by decide +kernel
theorem dL_law_1559 : decode (dc DL_law) 1559 = .ok (.ireturn, 1) := by decide +kernel
theorem dL_law_1560 : decode (dc DL_law) 1560 = .ok (.goto 737, 3) := by decide +kernel
theorem dL_law_1563 : decode (dc DL_law) 1563 = .ok (.aload_n 1, 1) := by decide +kernel
theorem dL_law_1564 : decode (dc DL_law) 1564 = .ok (.aload_n 0, 1) := by decide +kernel
theorem dL_law_1565 : decode (dc DL_law) 1565 = .ok (.iload 4, 2) := by decide +kernel
theorem dL_law_1567 : decode (dc DL_law) 1567 = .ok (.iconst 1, 1) := by decide +kernel
theorem dL_law_1568 : decode (dc DL_law) 1568 = .ok (.iadd, 1) := by decide +kernel
theorem dL_law_1569 : decode (dc DL_law) 1569 = .ok (.iaload, 1) := by decide +kernel
theorem dL_law_1570 : decode (dc DL_law) 1570 = .ok (.aload_n 3, 1) := by decide +kernel
theorem dL_law_1571 : decode (dc DL_law) 1571 = .ok (.invokestatic 205, 3) := by decide +kernel
theorem dL_law_1574 : decode (dc DL_law) 1574 = .ok (.istore 5, 2) := by decide +kernel
theorem dL_law_1576 : decode (dc DL_law) 1576 = .ok (.aload_n 2, 1) := by decide +kernel
theorem dL_law_1577 : decode (dc DL_law) 1577 = .ok (.aload_n 0, 1) := by decide +kernel
theorem dL_law_1578 : decode (dc DL_law) 1578 = .ok (.iload 4, 2) := by decide +kernel
theorem dL_law_1580 : decode (dc DL_law) 1580 = .ok (.iconst 1, 1) := by decide +kernel
theorem dL_law_1581 : decode (dc DL_law) 1581 = .ok (.iadd, 1) := by decide +kernel
theorem dL_law_1582 : decode (dc DL_law) 1582 = .ok (.iaload, 1) := by decide +kernel
theorem dL_law_1583 : decode (dc DL_law) 1583 = .ok (.invokevirtual 207, 3) := by decide +kernel
theorem dL_law_1586 : decode (dc DL_law) 1586 = .ok (.istore 6, 2) := by decide +kernel
theorem dL_law_1588 : decode (dc DL_law) 1588 = .ok (.aload_n 2, 1) := by decide +kernel
theorem dL_law_1589 : decode (dc DL_law) 1589 = .ok (.invokevirtual 121, 3) := by decide +kernel
theorem dL_law_1592 : decode (dc DL_law) 1592 = .ok (.iload 5, 2) := by decide +kernel
theorem dL_law_1594 : decode (dc DL_law) 1594 = .ok (.if_icmp .eq 5, 3) := by decide +kernel
theorem dL_law_1597 : decode (dc DL_law) 1597 = .ok (.iconst 0, 1) := by decide +kernel
theorem dL_law_1598 : decode (dc DL_law) 1598 = .ok (.ireturn, 1) := by decide +kernel
theorem dL_law_1599 : decode (dc DL_law) 1599 = .ok (.iload 5, 2) := by decide +kernel
theorem dL_law_1601 : decode (dc DL_law) 1601 = .ok (.ifCond .ne 15, 3) := by decide +kernel
theorem dL_law_1604 : decode (dc DL_law) 1604 = .ok (.aload_n 3, 1) := by decide +kernel
theorem dL_law_1605 : decode (dc DL_law) 1605 = .ok (.iconst 0, 1) := by decide +kernel
theorem dL_law_1606 : decode (dc DL_law) 1606 = .ok (.laload, 1) := by decide +kernel
theorem dL_law_1607 : decode (dc DL_law) 1607 = .ok (.iload 6, 2) := by decide +kernel
theorem dL_law_1609 : decode (dc DL_law) 1609 = .ok (.i2l, 1) := by decide +kernel
theorem dL_law_1610 : decode (dc DL_law) 1610 = .ok (.lcmp, 1) := by decide +kernel
theorem dL_law_1611 : decode (dc DL_law) 1611 = .ok (.ifCond .eq 5, 3) := by decide +kernel
theorem dL_law_1614 : decode (dc DL_law) 1614 = .ok (.iconst 0, 1) := by decide +kernel
theorem dL_law_1615 : decode (dc DL_law) 1615 = .ok (.ireturn, 1) := by decide +kernel
theorem dL_law_1616 : decode (dc DL_law) 1616 = .ok (.goto 681, 3) := by decide +kernel
theorem dL_law_1619 : decode (dc DL_law) 1619 = .ok (.aload_n 1, 1) := by decide +kernel
theorem dL_law_1620 : decode (dc DL_law) 1620 = .ok (.invokevirtual 208, 3) := by decide +kernel
theorem dL_law_1623 : decode (dc DL_law) 1623 = .ok (.aload_n 2, 1) := by decide +kernel
theorem dL_law_1624 : decode (dc DL_law) 1624 = .ok (.invokevirtual 211, 3) := by decide +kernel
theorem dL_law_1627 : decode (dc DL_law) 1627 = .ok (.if_icmp .eq 670, 3) := by decide +kernel
theorem dL_law_1630 : decode (dc DL_law) 1630 = .ok (.iconst 0, 1) := by decide +kernel
theorem dL_law_1631 : decode (dc DL_law) 1631 = .ok (.ireturn, 1) := by decide +kernel
theorem dL_law_1632 : decode (dc DL_law) 1632 = .ok (.aload_n 1, 1) := by decide +kernel
theorem dL_law_1633 : decode (dc DL_law) 1633 = .ok (.aload_n 0, 1) := by decide +kernel
theorem dL_law_1634 : decode (dc DL_law) 1634 = .ok (.iload 4, 2) := by decide +kernel
theorem dL_law_1636 : decode (dc DL_law) 1636 = .ok (.iconst 1, 1) := by decide +kernel
theorem dL_law_1637 : decode (dc DL_law) 1637 = .ok (.iadd, 1) := by decide +kernel
theorem dL_law_1638 : decode (dc DL_law) 1638 = .ok (.iaload, 1) := by decide +kernel
theorem dL_law_1639 : decode (dc DL_law) 1639 = .ok (.aload_n 0, 1) := by decide +kernel
theorem dL_law_1640 : decode (dc DL_law) 1640 = .ok (.iload 4, 2) := by decide +kernel
theorem dL_law_1642 : decode (dc DL_law) 1642 = .ok (.iconst 2, 1) := by decide +kernel
theorem dL_law_1643 : decode (dc DL_law) 1643 = .ok (.iadd, 1) := by decide +kernel
theorem dL_law_1644 : decode (dc DL_law) 1644 = .ok (.iaload, 1) := by decide +kernel
theorem dL_law_1645 : decode (dc DL_law) 1645 = .ok (.aload_n 3, 1) := by decide +kernel
theorem dL_law_1646 : decode (dc DL_law) 1646 = .ok (.invokestatic 212, 3) := by decide +kernel
theorem dL_law_1649 : decode (dc DL_law) 1649 = .ok (.istore 5, 2) := by decide +kernel
theorem dL_law_1651 : decode (dc DL_law) 1651 = .ok (.aload_n 2, 1) := by decide +kernel
theorem dL_law_1652 : decode (dc DL_law) 1652 = .ok (.aload_n 0, 1) := by decide +kernel
theorem dL_law_1653 : decode (dc DL_law) 1653 = .ok (.iload 4, 2) := by decide +kernel
theorem dL_law_1655 : decode (dc DL_law) 1655 = .ok (.iconst 1, 1) := by decide +kernel
theorem dL_law_1656 : decode (dc DL_law) 1656 = .ok (.iadd, 1) := by decide +kernel
theorem dL_law_1657 : decode (dc DL_law) 1657 = .ok (.iaload, 1) := by decide +kernel
theorem dL_law_1658 : decode (dc DL_law) 1658 = .ok (.aload_n 0, 1) := by decide +kernel
theorem dL_law_1659 : decode (dc DL_law) 1659 = .ok (.iload 4, 2) := by decide +kernel
theorem dL_law_1661 : decode (dc DL_law) 1661 = .ok (.iconst 2, 1) := by decide +kernel
theorem dL_law_1662 : decode (dc DL_law) 1662 = .ok (.iadd, 1) := by decide +kernel
theorem dL_law_1663 : decode (dc DL_law) 1663 = .ok (.iaload, 1) := by decide +kernel
theorem dL_law_1664 : decode (dc DL_law) 1664 = .ok (.invokevirtual 214, 3) := by decide +kernel
theorem dL_law_1667 : decode (dc DL_law) 1667 = .ok (.istore 6, 2) := by decide +kernel
theorem dL_law_1669 : decode (dc DL_law) 1669 = .ok (.aload_n 2, 1) := by decide +kernel
theorem dL_law_1670 : decode (dc DL_law) 1670 = .ok (.invokevirtual 121, 3) := by decide +kernel
theorem dL_law_1673 : decode (dc DL_law) 1673 = .ok (.iload 5, 2) := by decide +kernel
theorem dL_law_1675 : decode (dc DL_law) 1675 = .ok (.if_icmp .eq 5, 3) := by decide +kernel
theorem dL_law_1678 : decode (dc DL_law) 1678 = .ok (.iconst 0, 1) := by decide +kernel
theorem dL_law_1679 : decode (dc DL_law) 1679 = .ok (.ireturn, 1) := by decide +kernel
theorem dL_law_1680 : decode (dc DL_law) 1680 = .ok (.iload 5, 2) := by decide +kernel
theorem dL_law_1682 : decode (dc DL_law) 1682 = .ok (.ifCond .ne 15, 3) := by decide +kernel
theorem dL_law_1685 : decode (dc DL_law) 1685 = .ok (.aload_n 3, 1) := by decide +kernel
theorem dL_law_1686 : decode (dc DL_law) 1686 = .ok (.iconst 0, 1) := by decide +kernel
theorem dL_law_1687 : decode (dc DL_law) 1687 = .ok (.laload, 1) := by decide +kernel
theorem dL_law_1688 : decode (dc DL_law) 1688 = .ok (.iload 6, 2) := by decide +kernel
theorem dL_law_1690 : decode (dc DL_law) 1690 = .ok (.i2l, 1) := by decide +kernel
theorem dL_law_1691 : decode (dc DL_law) 1691 = .ok (.lcmp, 1) := by decide +kernel
theorem dL_law_1692 : decode (dc DL_law) 1692 = .ok (.ifCond .eq 5, 3) := by decide +kernel
theorem dL_law_1695 : decode (dc DL_law) 1695 = .ok (.iconst 0, 1) := by decide +kernel
theorem dL_law_1696 : decode (dc DL_law) 1696 = .ok (.ireturn, 1) := by decide +kernel
theorem dL_law_1697 : decode (dc DL_law) 1697 = .ok (.goto 600, 3) := by decide +kernel
theorem dL_law_1700 : decode (dc DL_law) 1700 = .ok (.aload_n 1, 1) := by decide +kernel
theorem dL_law_1701 : decode (dc DL_law) 1701 = .ok (.aload_n 0, 1) := by decide +kernel
theorem dL_law_1702 : decode (dc DL_law) 1702 = .ok (.iload 4, 2) := by decide +kernel
theorem dL_law_1704 : decode (dc DL_law) 1704 = .ok (.iconst 1, 1) := by decide +kernel
theorem dL_law_1705 : decode (dc DL_law) 1705 = .ok (.iadd, 1) := by decide +kernel
theorem dL_law_1706 : decode (dc DL_law) 1706 = .ok (.iaload, 1) := by decide +kernel
theorem dL_law_1707 : decode (dc DL_law) 1707 = .ok (.aload_n 0, 1) := by decide +kernel
theorem dL_law_1708 : decode (dc DL_law) 1708 = .ok (.iload 4, 2) := by decide +kernel
theorem dL_law_1710 : decode (dc DL_law) 1710 = .ok (.iconst 2, 1) := by decide +kernel
theorem dL_law_1711 : decode (dc DL_law) 1711 = .ok (.iadd, 1) := by decide +kernel
theorem dL_law_1712 : decode (dc DL_law) 1712 = .ok (.iaload, 1) := by decide +kernel
theorem dL_law_1713 : decode (dc DL_law) 1713 = .ok (.aload_n 0, 1) := by decide +kernel
theorem dL_law_1714 : decode (dc DL_law) 1714 = .ok (.iload 4, 2) := by decide +kernel
theorem dL_law_1716 : decode (dc DL_law) 1716 = .ok (.iconst 3, 1) := by decide +kernel
theorem dL_law_1717 : decode (dc DL_law) 1717 = .ok (.iadd, 1) := by decide +kernel
theorem dL_law_1718 : decode (dc DL_law) 1718 = .ok (.iaload, 1) := by decide +kernel
theorem dL_law_1719 : decode (dc DL_law) 1719 = .ok (.aload_n 3, 1) := by decide +kernel
theorem dL_law_1720 : decode (dc DL_law) 1720 = .ok (.invokestatic 215, 3) := by decide +kernel
theorem dL_law_1723 : decode (dc DL_law) 1723 = .ok (.istore 5, 2) := by decide +kernel
theorem dL_law_1725 : decode (dc DL_law) 1725 = .ok (.aload_n 2, 1) := by decide +kernel
theorem dL_law_1726 : decode (dc DL_law) 1726 = .ok (.aload_n 0, 1) := by decide +kernel
theorem dL_law_1727 : decode (dc DL_law) 1727 = .ok (.iload 4, 2) := by decide +kernel
theorem dL_law_1729 : decode (dc DL_law) 1729 = .ok (.iconst 1, 1) := by decide +kernel
theorem dL_law_1730 : decode (dc DL_law) 1730 = .ok (.iadd, 1) := by decide +kernel
theorem dL_law_1731 : decode (dc DL_law) 1731 = .ok (.iaload, 1) := by decide +kernel
theorem dL_law_1732 : decode (dc DL_law) 1732 = .ok (.aload_n 0, 1) := by decide +kernel
theorem dL_law_1733 : decode (dc DL_law) 1733 = .ok (.iload 4, 2) := by decide +kernel
theorem dL_law_1735 : decode (dc DL_law) 1735 = .ok (.iconst 2, 1) := by decide +kernel
theorem dL_law_1736 : decode (dc DL_law) 1736 = .ok (.iadd, 1) := by decide +kernel
theorem dL_law_1737 : decode (dc DL_law) 1737 = .ok (.iaload, 1) := by decide +kernel
theorem dL_law_1738 : decode (dc DL_law) 1738 = .ok (.aload_n 0, 1) := by decide +kernel
theorem dL_law_1739 : decode (dc DL_law) 1739 = .ok (.iload 4, 2) := by decide +kernel
theorem dL_law_1741 : decode (dc DL_law) 1741 = .ok (.iconst 3, 1) := by decide +kernel
theorem dL_law_1742 : decode (dc DL_law) 1742 = .ok (.iadd, 1) := by decide +kernel
theorem dL_law_1743 : decode (dc DL_law) 1743 = .ok (.iaload, 1) := by decide +kernel
theorem dL_law_1744 : decode (dc DL_law) 1744 = .ok (.invokevirtual 217, 3) := by decide +kernel
theorem dL_law_1747 : decode (dc DL_law) 1747 = .ok (.istore 6, 2) := by decide +kernel
theorem dL_law_1749 : decode (dc DL_law) 1749 = .ok (.aload_n 2, 1) := by decide +kernel
theorem dL_law_1750 : decode (dc DL_law) 1750 = .ok (.invokevirtual 121, 3) := by decide +kernel
theorem dL_law_1753 : decode (dc DL_law) 1753 = .ok (.iload 5, 2) := by decide +kernel
theorem dL_law_1755 : decode (dc DL_law) 1755 = .ok (.if_icmp .eq 5, 3) := by decide +kernel
theorem dL_law_1758 : decode (dc DL_law) 1758 = .ok (.iconst 0, 1) := by decide +kernel
theorem dL_law_1759 : decode (dc DL_law) 1759 = .ok (.ireturn, 1) := by decide +kernel
theorem dL_law_1760 : decode (dc DL_law) 1760 = .ok (.iload 5, 2) := by decide +kernel
theorem dL_law_1762 : decode (dc DL_law) 1762 = .ok (.ifCond .ne 15, 3) := by decide +kernel
theorem dL_law_1765 : decode (dc DL_law) 1765 = .ok (.aload_n 3, 1) := by decide +kernel
theorem dL_law_1766 : decode (dc DL_law) 1766 = .ok (.iconst 0, 1) := by decide +kernel
theorem dL_law_1767 : decode (dc DL_law) 1767 = .ok (.laload, 1) := by decide +kernel
theorem dL_law_1768 : decode (dc DL_law) 1768 = .ok (.iload 6, 2) := by decide +kernel
theorem dL_law_1770 : decode (dc DL_law) 1770 = .ok (.i2l, 1) := by decide +kernel
theorem dL_law_1771 : decode (dc DL_law) 1771 = .ok (.lcmp, 1) := by decide +kernel
theorem dL_law_1772 : decode (dc DL_law) 1772 = .ok (.ifCond .eq 5, 3) := by decide +kernel
theorem dL_law_1775 : decode (dc DL_law) 1775 = .ok (.iconst 0, 1) := by decide +kernel
theorem dL_law_1776 : decode (dc DL_law) 1776 = .ok (.ireturn, 1) := by decide +kernel
theorem dL_law_1777 : decode (dc DL_law) 1777 = .ok (.goto 520, 3) := by decide +kernel
theorem dL_law_1780 : decode (dc DL_law) 1780 = .ok (.aload_n 1, 1) := by decide +kernel
theorem dL_law_1781 : decode (dc DL_law) 1781 = .ok (.aload_n 0, 1) := by decide +kernel
theorem dL_law_1782 : decode (dc DL_law) 1782 = .ok (.iload 4, 2) := by decide +kernel
theorem dL_law_1784 : decode (dc DL_law) 1784 = .ok (.iconst 1, 1) := by decide +kernel
theorem dL_law_1785 : decode (dc DL_law) 1785 = .ok (.iadd, 1) := by decide +kernel
theorem dL_law_1786 : decode (dc DL_law) 1786 = .ok (.iaload, 1) := by decide +kernel
theorem dL_law_1787 : decode (dc DL_law) 1787 = .ok (.aload_n 0, 1) := by decide +kernel
theorem dL_law_1788 : decode (dc DL_law) 1788 = .ok (.iload 4, 2) := by decide +kernel
theorem dL_law_1790 : decode (dc DL_law) 1790 = .ok (.iconst 2, 1) := by decide +kernel
theorem dL_law_1791 : decode (dc DL_law) 1791 = .ok (.iadd, 1) := by decide +kernel
theorem dL_law_1792 : decode (dc DL_law) 1792 = .ok (.iaload, 1) := by decide +kernel
theorem dL_law_1793 : decode (dc DL_law) 1793 = .ok (.aload_n 3, 1) := by decide +kernel
theorem dL_law_1794 : decode (dc DL_law) 1794 = .ok (.invokestatic 218, 3) := by decide +kernel
theorem dL_law_1797 : decode (dc DL_law) 1797 = .ok (.istore 5, 2) := by decide +kernel
theorem dL_law_1799 : decode (dc DL_law) 1799 = .ok (.aload_n 2, 1) := by decide +kernel
theorem dL_law_1800 : decode (dc DL_law) 1800 = .ok (.aload_n 0, 1) := by decide +kernel
theorem dL_law_1801 : decode (dc DL_law) 1801 = .ok (.iload 4, 2) := by decide +kernel
theorem dL_law_1803 : decode (dc DL_law) 1803 = .ok (.iconst 1, 1) := by decide +kernel
theorem dL_law_1804 : decode (dc DL_law) 1804 = .ok (.iadd, 1) := by decide +kernel
theorem dL_law_1805 : decode (dc DL_law) 1805 = .ok (.iaload, 1) := by decide +kernel
theorem dL_law_1806 : decode (dc DL_law) 1806 = .ok (.aload_n 0, 1) := by decide +kernel
theorem dL_law_1807 : decode (dc DL_law) 1807 = .ok (.iload 4, 2) := by decide +kernel
theorem dL_law_1809 : decode (dc DL_law) 1809 = .ok (.iconst 2, 1) := by decide +kernel
theorem dL_law_1810 : decode (dc DL_law) 1810 = .ok (.iadd, 1) := by decide +kernel
theorem dL_law_1811 : decode (dc DL_law) 1811 = .ok (.iaload, 1) := by decide +kernel
theorem dL_law_1812 : decode (dc DL_law) 1812 = .ok (.invokevirtual 220, 3) := by decide +kernel
theorem dL_law_1815 : decode (dc DL_law) 1815 = .ok (.istore 6, 2) := by decide +kernel
theorem dL_law_1817 : decode (dc DL_law) 1817 = .ok (.aload_n 2, 1) := by decide +kernel
theorem dL_law_1818 : decode (dc DL_law) 1818 = .ok (.invokevirtual 121, 3) := by decide +kernel
theorem dL_law_1821 : decode (dc DL_law) 1821 = .ok (.iload 5, 2) := by decide +kernel
theorem dL_law_1823 : decode (dc DL_law) 1823 = .ok (.if_icmp .eq 5, 3) := by decide +kernel
theorem dL_law_1826 : decode (dc DL_law) 1826 = .ok (.iconst 0, 1) := by decide +kernel
theorem dL_law_1827 : decode (dc DL_law) 1827 = .ok (.ireturn, 1) := by decide +kernel
theorem dL_law_1828 : decode (dc DL_law) 1828 = .ok (.iload 5, 2) := by decide +kernel
theorem dL_law_1830 : decode (dc DL_law) 1830 = .ok (.ifCond .ne 15, 3) := by decide +kernel
theorem dL_law_1833 : decode (dc DL_law) 1833 = .ok (.aload_n 3, 1) := by decide +kernel
theorem dL_law_1834 : decode (dc DL_law) 1834 = .ok (.iconst 0, 1) := by decide +kernel
theorem dL_law_1835 : decode (dc DL_law) 1835 = .ok (.laload, 1) := by decide +kernel
theorem dL_law_1836 : decode (dc DL_law) 1836 = .ok (.iload 6, 2) := by decide +kernel
theorem dL_law_1838 : decode (dc DL_law) 1838 = .ok (.i2l, 1) := by decide +kernel
theorem dL_law_1839 : decode (dc DL_law) 1839 = .ok (.lcmp, 1) := by decide +kernel
theorem dL_law_1840 : decode (dc DL_law) 1840 = .ok (.ifCond .eq 5, 3) := by decide +kernel
theorem dL_law_1843 : decode (dc DL_law) 1843 = .ok (.iconst 0, 1) := by decide +kernel
theorem dL_law_1844 : decode (dc DL_law) 1844 = .ok (.ireturn, 1) := by decide +kernel
theorem dL_law_1845 : decode (dc DL_law) 1845 = .ok (.goto 452, 3) := by decide +kernel
theorem dL_law_1848 : decode (dc DL_law) 1848 = .ok (.aload_n 1, 1) := by decide +kernel
theorem dL_law_1849 : decode (dc DL_law) 1849 = .ok (.aload_n 0, 1) := by decide +kernel
theorem dL_law_1850 : decode (dc DL_law) 1850 = .ok (.iload 4, 2) := by decide +kernel
theorem dL_law_1852 : decode (dc DL_law) 1852 = .ok (.iconst 1, 1) := by decide +kernel
theorem dL_law_1853 : decode (dc DL_law) 1853 = .ok (.iadd, 1) := by decide +kernel
theorem dL_law_1854 : decode (dc DL_law) 1854 = .ok (.iaload, 1) := by decide +kernel
theorem dL_law_1855 : decode (dc DL_law) 1855 = .ok (.aload_n 0, 1) := by decide +kernel
theorem dL_law_1856 : decode (dc DL_law) 1856 = .ok (.iload 4, 2) := by decide +kernel
theorem dL_law_1858 : decode (dc DL_law) 1858 = .ok (.iconst 2, 1) := by decide +kernel
theorem dL_law_1859 : decode (dc DL_law) 1859 = .ok (.iadd, 1) := by decide +kernel
theorem dL_law_1860 : decode (dc DL_law) 1860 = .ok (.iaload, 1) := by decide +kernel
theorem dL_law_1861 : decode (dc DL_law) 1861 = .ok (.aload_n 0, 1) := by decide +kernel
theorem dL_law_1862 : decode (dc DL_law) 1862 = .ok (.iload 4, 2) := by decide +kernel
theorem dL_law_1864 : decode (dc DL_law) 1864 = .ok (.iconst 3, 1) := by decide +kernel
theorem dL_law_1865 : decode (dc DL_law) 1865 = .ok (.iadd, 1) := by decide +kernel
theorem dL_law_1866 : decode (dc DL_law) 1866 = .ok (.iaload, 1) := by decide +kernel
theorem dL_law_1867 : decode (dc DL_law) 1867 = .ok (.aload_n 3, 1) := by decide +kernel
theorem dL_law_1868 : decode (dc DL_law) 1868 = .ok (.invokestatic 221, 3) := by decide +kernel
theorem dL_law_1871 : decode (dc DL_law) 1871 = .ok (.istore 5, 2) := by decide +kernel
theorem dL_law_1873 : decode (dc DL_law) 1873 = .ok (.aload_n 2, 1) := by decide +kernel
theorem dL_law_1874 : decode (dc DL_law) 1874 = .ok (.aload_n 0, 1) := by decide +kernel
theorem dL_law_1875 : decode (dc DL_law) 1875 = .ok (.iload 4, 2) := by decide +kernel
theorem dL_law_1877 : decode (dc DL_law) 1877 = .ok (.iconst 1, 1) := by decide +kernel
theorem dL_law_1878 : decode (dc DL_law) 1878 = .ok (.iadd, 1) := by decide +kernel
theorem dL_law_1879 : decode (dc DL_law) 1879 = .ok (.iaload, 1) := by decide +kernel
theorem dL_law_1880 : decode (dc DL_law) 1880 = .ok (.aload_n 0, 1) := by decide +kernel
theorem dL_law_1881 : decode (dc DL_law) 1881 = .ok (.iload 4, 2) := by decide +kernel
theorem dL_law_1883 : decode (dc DL_law) 1883 = .ok (.iconst 2, 1) := by decide +kernel
theorem dL_law_1884 : decode (dc DL_law) 1884 = .ok (.iadd, 1) := by decide +kernel
theorem dL_law_1885 : decode (dc DL_law) 1885 = .ok (.iaload, 1) := by decide +kernel
theorem dL_law_1886 : decode (dc DL_law) 1886 = .ok (.aload_n 0, 1) := by decide +kernel
theorem dL_law_1887 : decode (dc DL_law) 1887 = .ok (.iload 4, 2) := by decide +kernel
theorem dL_law_1889 : decode (dc DL_law) 1889 = .ok (.iconst 3, 1) := by decide +kernel
theorem dL_law_1890 : decode (dc DL_law) 1890 = .ok (.iadd, 1) := by decide +kernel
theorem dL_law_1891 : decode (dc DL_law) 1891 = .ok (.iaload, 1) := by decide +kernel
theorem dL_law_1892 : decode (dc DL_law) 1892 = .ok (.invokevirtual 223, 3) := by decide +kernel
theorem dL_law_1895 : decode (dc DL_law) 1895 = .ok (.istore 6, 2) := by decide +kernel
theorem dL_law_1897 : decode (dc DL_law) 1897 = .ok (.aload_n 2, 1) := by decide +kernel
theorem dL_law_1898 : decode (dc DL_law) 1898 = .ok (.invokevirtual 121, 3) := by decide +kernel
theorem dL_law_1901 : decode (dc DL_law) 1901 = .ok (.iload 5, 2) := by decide +kernel
theorem dL_law_1903 : decode (dc DL_law) 1903 = .ok (.if_icmp .eq 5, 3) := by decide +kernel
theorem dL_law_1906 : decode (dc DL_law) 1906 = .ok (.iconst 0, 1) := by decide +kernel
theorem dL_law_1907 : decode (dc DL_law) 1907 = .ok (.ireturn, 1) := by decide +kernel
theorem dL_law_1908 : decode (dc DL_law) 1908 = .ok (.iload 5, 2) := by decide +kernel
theorem dL_law_1910 : decode (dc DL_law) 1910 = .ok (.ifCond .ne 15, 3) := by decide +kernel
theorem dL_law_1913 : decode (dc DL_law) 1913 = .ok (.aload_n 3, 1) := by decide +kernel
theorem dL_law_1914 : decode (dc DL_law) 1914 = .ok (.iconst 0, 1) := by decide +kernel
theorem dL_law_1915 : decode (dc DL_law) 1915 = .ok (.laload, 1) := by decide +kernel
theorem dL_law_1916 : decode (dc DL_law) 1916 = .ok (.iload 6, 2) := by decide +kernel
theorem dL_law_1918 : decode (dc DL_law) 1918 = .ok (.i2l, 1) := by decide +kernel
theorem dL_law_1919 : decode (dc DL_law) 1919 = .ok (.lcmp, 1) := by decide +kernel
theorem dL_law_1920 : decode (dc DL_law) 1920 = .ok (.ifCond .eq 5, 3) := by decide +kernel
theorem dL_law_1923 : decode (dc DL_law) 1923 = .ok (.iconst 0, 1) := by decide +kernel
theorem dL_law_1924 : decode (dc DL_law) 1924 = .ok (.ireturn, 1) := by decide +kernel
theorem dL_law_1925 : decode (dc DL_law) 1925 = .ok (.goto 372, 3) := by decide +kernel
theorem dL_law_1928 : decode (dc DL_law) 1928 = .ok (.aload_n 1, 1) := by decide +kernel
theorem dL_law_1929 : decode (dc DL_law) 1929 = .ok (.aload_n 0, 1) := by decide +kernel
theorem dL_law_1930 : decode (dc DL_law) 1930 = .ok (.iload 4, 2) := by decide +kernel
theorem dL_law_1932 : decode (dc DL_law) 1932 = .ok (.iconst 1, 1) := by decide +kernel
theorem dL_law_1933 : decode (dc DL_law) 1933 = .ok (.iadd, 1) := by decide +kernel
theorem dL_law_1934 : decode (dc DL_law) 1934 = .ok (.iaload, 1) := by decide +kernel
theorem dL_law_1935 : decode (dc DL_law) 1935 = .ok (.aload_n 0, 1) := by decide +kernel
theorem dL_law_1936 : decode (dc DL_law) 1936 = .ok (.iload 4, 2) := by decide +kernel
theorem dL_law_1938 : decode (dc DL_law) 1938 = .ok (.iconst 2, 1) := by decide +kernel
theorem dL_law_1939 : decode (dc DL_law) 1939 = .ok (.iadd, 1) := by decide +kernel
theorem dL_law_1940 : decode (dc DL_law) 1940 = .ok (.iaload, 1) := by decide +kernel
theorem dL_law_1941 : decode (dc DL_law) 1941 = .ok (.aload_n 3, 1) := by decide +kernel
theorem dL_law_1942 : decode (dc DL_law) 1942 = .ok (.invokestatic 224, 3) := by decide +kernel
theorem dL_law_1945 : decode (dc DL_law) 1945 = .ok (.istore 5, 2) := by decide +kernel
theorem dL_law_1947 : decode (dc DL_law) 1947 = .ok (.aload_n 2, 1) := by decide +kernel
theorem dL_law_1948 : decode (dc DL_law) 1948 = .ok (.aload_n 0, 1) := by decide +kernel
theorem dL_law_1949 : decode (dc DL_law) 1949 = .ok (.iload 4, 2) := by decide +kernel
theorem dL_law_1951 : decode (dc DL_law) 1951 = .ok (.iconst 1, 1) := by decide +kernel
theorem dL_law_1952 : decode (dc DL_law) 1952 = .ok (.iadd, 1) := by decide +kernel
theorem dL_law_1953 : decode (dc DL_law) 1953 = .ok (.iaload, 1) := by decide +kernel
theorem dL_law_1954 : decode (dc DL_law) 1954 = .ok (.aload_n 0, 1) := by decide +kernel
theorem dL_law_1955 : decode (dc DL_law) 1955 = .ok (.iload 4, 2) := by decide +kernel
theorem dL_law_1957 : decode (dc DL_law) 1957 = .ok (.iconst 2, 1) := by decide +kernel
theorem dL_law_1958 : decode (dc DL_law) 1958 = .ok (.iadd, 1) := by decide +kernel
theorem dL_law_1959 : decode (dc DL_law) 1959 = .ok (.iaload, 1) := by decide +kernel
theorem dL_law_1960 : decode (dc DL_law) 1960 = .ok (.invokevirtual 226, 3) := by decide +kernel
theorem dL_law_1963 : decode (dc DL_law) 1963 = .ok (.istore 6, 2) := by decide +kernel
theorem dL_law_1965 : decode (dc DL_law) 1965 = .ok (.aload_n 2, 1) := by decide +kernel
theorem dL_law_1966 : decode (dc DL_law) 1966 = .ok (.invokevirtual 121, 3) := by decide +kernel
theorem dL_law_1969 : decode (dc DL_law) 1969 = .ok (.iload 5, 2) := by decide +kernel
theorem dL_law_1971 : decode (dc DL_law) 1971 = .ok (.if_icmp .eq 5, 3) := by decide +kernel
theorem dL_law_1974 : decode (dc DL_law) 1974 = .ok (.iconst 0, 1) := by decide +kernel
theorem dL_law_1975 : decode (dc DL_law) 1975 = .ok (.ireturn, 1) := by decide +kernel
theorem dL_law_1976 : decode (dc DL_law) 1976 = .ok (.iload 5, 2) := by decide +kernel
theorem dL_law_1978 : decode (dc DL_law) 1978 = .ok (.ifCond .ne 15, 3) := by decide +kernel
theorem dL_law_1981 : decode (dc DL_law) 1981 = .ok (.aload_n 3, 1) := by decide +kernel
theorem dL_law_1982 : decode (dc DL_law) 1982 = .ok (.iconst 0, 1) := by decide +kernel
theorem dL_law_1983 : decode (dc DL_law) 1983 = .ok (.laload, 1) := by decide +kernel
theorem dL_law_1984 : decode (dc DL_law) 1984 = .ok (.iload 6, 2) := by decide +kernel
theorem dL_law_1986 : decode (dc DL_law) 1986 = .ok (.i2l, 1) := by decide +kernel
theorem dL_law_1987 : decode (dc DL_law) 1987 = .ok (.lcmp, 1) := by decide +kernel
theorem dL_law_1988 : decode (dc DL_law) 1988 = .ok (.ifCond .eq 5, 3) := by decide +kernel
theorem dL_law_1991 : decode (dc DL_law) 1991 = .ok (.iconst 0, 1) := by decide +kernel
theorem dL_law_1992 : decode (dc DL_law) 1992 = .ok (.ireturn, 1) := by decide +kernel
theorem dL_law_1993 : decode (dc DL_law) 1993 = .ok (.goto 304, 3) := by decide +kernel
theorem dL_law_1996 : decode (dc DL_law) 1996 = .ok (.aload_n 1, 1) := by decide +kernel
theorem dL_law_1997 : decode (dc DL_law) 1997 = .ok (.aload_n 0, 1) := by decide +kernel
theorem dL_law_1998 : decode (dc DL_law) 1998 = .ok (.iload 4, 2) := by decide +kernel
theorem dL_law_2000 : decode (dc DL_law) 2000 = .ok (.iconst 1, 1) := by decide +kernel
theorem dL_law_2001 : decode (dc DL_law) 2001 = .ok (.iadd, 1) := by decide +kernel
theorem dL_law_2002 : decode (dc DL_law) 2002 = .ok (.iaload, 1) := by decide +kernel
theorem dL_law_2003 : decode (dc DL_law) 2003 = .ok (.aload_n 3, 1) := by decide +kernel
theorem dL_law_2004 : decode (dc DL_law) 2004 = .ok (.invokestatic 227, 3) := by decide +kernel
theorem dL_law_2007 : decode (dc DL_law) 2007 = .ok (.istore 5, 2) := by decide +kernel
theorem dL_law_2009 : decode (dc DL_law) 2009 = .ok (.aload_n 2, 1) := by decide +kernel
theorem dL_law_2010 : decode (dc DL_law) 2010 = .ok (.aload_n 0, 1) := by decide +kernel
theorem dL_law_2011 : decode (dc DL_law) 2011 = .ok (.iload 4, 2) := by decide +kernel
theorem dL_law_2013 : decode (dc DL_law) 2013 = .ok (.iconst 1, 1) := by decide +kernel
theorem dL_law_2014 : decode (dc DL_law) 2014 = .ok (.iadd, 1) := by decide +kernel
theorem dL_law_2015 : decode (dc DL_law) 2015 = .ok (.iaload, 1) := by decide +kernel
theorem dL_law_2016 : decode (dc DL_law) 2016 = .ok (.invokevirtual 229, 3) := by decide +kernel
theorem dL_law_2019 : decode (dc DL_law) 2019 = .ok (.istore 6, 2) := by decide +kernel
theorem dL_law_2021 : decode (dc DL_law) 2021 = .ok (.aload_n 2, 1) := by decide +kernel
theorem dL_law_2022 : decode (dc DL_law) 2022 = .ok (.invokevirtual 121, 3) := by decide +kernel
theorem dL_law_2025 : decode (dc DL_law) 2025 = .ok (.iload 5, 2) := by decide +kernel
theorem dL_law_2027 : decode (dc DL_law) 2027 = .ok (.if_icmp .eq 5, 3) := by decide +kernel
theorem dL_law_2030 : decode (dc DL_law) 2030 = .ok (.iconst 0, 1) := by decide +kernel
theorem dL_law_2031 : decode (dc DL_law) 2031 = .ok (.ireturn, 1) := by decide +kernel
theorem dL_law_2032 : decode (dc DL_law) 2032 = .ok (.iload 5, 2) := by decide +kernel
theorem dL_law_2034 : decode (dc DL_law) 2034 = .ok (.ifCond .ne 15, 3) := by decide +kernel
theorem dL_law_2037 : decode (dc DL_law) 2037 = .ok (.aload_n 3, 1) := by decide +kernel
theorem dL_law_2038 : decode (dc DL_law) 2038 = .ok (.iconst 0, 1) := by decide +kernel
theorem dL_law_2039 : decode (dc DL_law) 2039 = .ok (.laload, 1) := by decide +kernel
theorem dL_law_2040 : decode (dc DL_law) 2040 = .ok (.iload 6, 2) := by decide +kernel
theorem dL_law_2042 : decode (dc DL_law) 2042 = .ok (.i2l, 1) := by decide +kernel
theorem dL_law_2043 : decode (dc DL_law) 2043 = .ok (.lcmp, 1) := by decide +kernel
theorem dL_law_2044 : decode (dc DL_law) 2044 = .ok (.ifCond .eq 5, 3) := by decide +kernel
theorem dL_law_2047 : decode (dc DL_law) 2047 = .ok (.iconst 0, 1) := by decide +kernel
theorem dL_law_2048 : decode (dc DL_law) 2048 = .ok (.ireturn, 1) := by decide +kernel
theorem dL_law_2049 : decode (dc DL_law) 2049 = .ok (.goto 248, 3) := by decide +kernel
theorem dL_law_2052 : decode (dc DL_law) 2052 = .ok (.aload_n 1, 1) := by decide +kernel
theorem dL_law_2053 : decode (dc DL_law) 2053 = .ok (.aload_n 0, 1) := by decide +kernel
theorem dL_law_2054 : decode (dc DL_law) 2054 = .ok (.iload 4, 2) := by decide +kernel
theorem dL_law_2056 : decode (dc DL_law) 2056 = .ok (.iconst 1, 1) := by decide +kernel
theorem dL_law_2057 : decode (dc DL_law) 2057 = .ok (.iadd, 1) := by decide +kernel
theorem dL_law_2058 : decode (dc DL_law) 2058 = .ok (.iaload, 1) := by decide +kernel
theorem dL_law_2059 : decode (dc DL_law) 2059 = .ok (.aload_n 0, 1) := by decide +kernel
theorem dL_law_2060 : decode (dc DL_law) 2060 = .ok (.iload 4, 2) := by decide +kernel
theorem dL_law_2062 : decode (dc DL_law) 2062 = .ok (.iconst 2, 1) := by decide +kernel
theorem dL_law_2063 : decode (dc DL_law) 2063 = .ok (.iadd, 1) := by decide +kernel
theorem dL_law_2064 : decode (dc DL_law) 2064 = .ok (.iaload, 1) := by decide +kernel
theorem dL_law_2065 : decode (dc DL_law) 2065 = .ok (.aload_n 3, 1) := by decide +kernel
theorem dL_law_2066 : decode (dc DL_law) 2066 = .ok (.invokestatic 230, 3) := by decide +kernel
theorem dL_law_2069 : decode (dc DL_law) 2069 = .ok (.istore 5, 2) := by decide +kernel
theorem dL_law_2071 : decode (dc DL_law) 2071 = .ok (.aload_n 2, 1) := by decide +kernel
theorem dL_law_2072 : decode (dc DL_law) 2072 = .ok (.aload_n 0, 1) := by decide +kernel
theorem dL_law_2073 : decode (dc DL_law) 2073 = .ok (.iload 4, 2) := by decide +kernel
theorem dL_law_2075 : decode (dc DL_law) 2075 = .ok (.iconst 1, 1) := by decide +kernel
theorem dL_law_2076 : decode (dc DL_law) 2076 = .ok (.iadd, 1) := by decide +kernel
theorem dL_law_2077 : decode (dc DL_law) 2077 = .ok (.iaload, 1) := by decide +kernel
theorem dL_law_2078 : decode (dc DL_law) 2078 = .ok (.aload_n 0, 1) := by decide +kernel
theorem dL_law_2079 : decode (dc DL_law) 2079 = .ok (.iload 4, 2) := by decide +kernel
theorem dL_law_2081 : decode (dc DL_law) 2081 = .ok (.iconst 2, 1) := by decide +kernel
theorem dL_law_2082 : decode (dc DL_law) 2082 = .ok (.iadd, 1) := by decide +kernel
theorem dL_law_2083 : decode (dc DL_law) 2083 = .ok (.iaload, 1) := by decide +kernel
theorem dL_law_2084 : decode (dc DL_law) 2084 = .ok (.invokevirtual 232, 3) := by decide +kernel
theorem dL_law_2087 : decode (dc DL_law) 2087 = .ok (.istore 6, 2) := by decide +kernel
theorem dL_law_2089 : decode (dc DL_law) 2089 = .ok (.aload_n 2, 1) := by decide +kernel
theorem dL_law_2090 : decode (dc DL_law) 2090 = .ok (.invokevirtual 121, 3) := by decide +kernel
theorem dL_law_2093 : decode (dc DL_law) 2093 = .ok (.iload 5, 2) := by decide +kernel
theorem dL_law_2095 : decode (dc DL_law) 2095 = .ok (.if_icmp .eq 5, 3) := by decide +kernel
theorem dL_law_2098 : decode (dc DL_law) 2098 = .ok (.iconst 0, 1) := by decide +kernel
theorem dL_law_2099 : decode (dc DL_law) 2099 = .ok (.ireturn, 1) := by decide +kernel
theorem dL_law_2100 : decode (dc DL_law) 2100 = .ok (.iload 5, 2) := by decide +kernel
theorem dL_law_2102 : decode (dc DL_law) 2102 = .ok (.ifCond .ne 15, 3) := by decide +kernel
theorem dL_law_2105 : decode (dc DL_law) 2105 = .ok (.aload_n 3, 1) := by decide +kernel
theorem dL_law_2106 : decode (dc DL_law) 2106 = .ok (.iconst 0, 1) := by decide +kernel
theorem dL_law_2107 : decode (dc DL_law) 2107 = .ok (.laload, 1) := by decide +kernel
theorem dL_law_2108 : decode (dc DL_law) 2108 = .ok (.iload 6, 2) := by decide +kernel
theorem dL_law_2110 : decode (dc DL_law) 2110 = .ok (.i2l, 1) := by decide +kernel
theorem dL_law_2111 : decode (dc DL_law) 2111 = .ok (.lcmp, 1) := by decide +kernel
theorem dL_law_2112 : decode (dc DL_law) 2112 = .ok (.ifCond .eq 5, 3) := by decide +kernel
theorem dL_law_2115 : decode (dc DL_law) 2115 = .ok (.iconst 0, 1) := by decide +kernel
theorem dL_law_2116 : decode (dc DL_law) 2116 = .ok (.ireturn, 1) := by decide +kernel
theorem dL_law_2117 : decode (dc DL_law) 2117 = .ok (.goto 180, 3) := by decide +kernel
theorem dL_law_2120 : decode (dc DL_law) 2120 = .ok (.aload_n 1, 1) := by decide +kernel
theorem dL_law_2121 : decode (dc DL_law) 2121 = .ok (.invokevirtual 233, 3) := by decide +kernel
theorem dL_law_2124 : decode (dc DL_law) 2124 = .ok (.aload_n 2, 1) := by decide +kernel
theorem dL_law_2125 : decode (dc DL_law) 2125 = .ok (.invokevirtual 236, 3) := by decide +kernel
theorem dL_law_2128 : decode (dc DL_law) 2128 = .ok (.if_icmp .eq 169, 3) := by decide +kernel
theorem dL_law_2131 : decode (dc DL_law) 2131 = .ok (.iconst 0, 1) := by decide +kernel
theorem dL_law_2132 : decode (dc DL_law) 2132 = .ok (.ireturn, 1) := by decide +kernel
theorem dL_law_2133 : decode (dc DL_law) 2133 = .ok (.aload_n 1, 1) := by decide +kernel
theorem dL_law_2134 : decode (dc DL_law) 2134 = .ok (.aload_n 0, 1) := by decide +kernel
theorem dL_law_2135 : decode (dc DL_law) 2135 = .ok (.iload 4, 2) := by decide +kernel
theorem dL_law_2137 : decode (dc DL_law) 2137 = .ok (.iconst 1, 1) := by decide +kernel
theorem dL_law_2138 : decode (dc DL_law) 2138 = .ok (.iadd, 1) := by decide +kernel
theorem dL_law_2139 : decode (dc DL_law) 2139 = .ok (.iaload, 1) := by decide +kernel
theorem dL_law_2140 : decode (dc DL_law) 2140 = .ok (.aload_n 3, 1) := by decide +kernel
theorem dL_law_2141 : decode (dc DL_law) 2141 = .ok (.invokestatic 237, 3) := by decide +kernel
theorem dL_law_2144 : decode (dc DL_law) 2144 = .ok (.istore 5, 2) := by decide +kernel
theorem dL_law_2146 : decode (dc DL_law) 2146 = .ok (.aload_n 2, 1) := by decide +kernel
theorem dL_law_2147 : decode (dc DL_law) 2147 = .ok (.aload_n 0, 1) := by decide +kernel
theorem dL_law_2148 : decode (dc DL_law) 2148 = .ok (.iload 4, 2) := by decide +kernel
theorem dL_law_2150 : decode (dc DL_law) 2150 = .ok (.iconst 1, 1) := by decide +kernel
theorem dL_law_2151 : decode (dc DL_law) 2151 = .ok (.iadd, 1) := by decide +kernel
theorem dL_law_2152 : decode (dc DL_law) 2152 = .ok (.iaload, 1) := by decide +kernel
theorem dL_law_2153 : decode (dc DL_law) 2153 = .ok (.invokevirtual 239, 3) := by decide +kernel
theorem dL_law_2156 : decode (dc DL_law) 2156 = .ok (.istore 6, 2) := by decide +kernel
theorem dL_law_2158 : decode (dc DL_law) 2158 = .ok (.aload_n 2, 1) := by decide +kernel
theorem dL_law_2159 : decode (dc DL_law) 2159 = .ok (.invokevirtual 121, 3) := by decide +kernel
theorem dL_law_2162 : decode (dc DL_law) 2162 = .ok (.iload 5, 2) := by decide +kernel
theorem dL_law_2164 : decode (dc DL_law) 2164 = .ok (.if_icmp .eq 5, 3) := by decide +kernel
theorem dL_law_2167 : decode (dc DL_law) 2167 = .ok (.iconst 0, 1) := by decide +kernel
theorem dL_law_2168 : decode (dc DL_law) 2168 = .ok (.ireturn, 1) := by decide +kernel
theorem dL_law_2169 : decode (dc DL_law) 2169 = .ok (.iload 5, 2) := by decide +kernel
theorem dL_law_2171 : decode (dc DL_law) 2171 = .ok (.ifCond .ne 15, 3) := by decide +kernel
theorem dL_law_2174 : decode (dc DL_law) 2174 = .ok (.aload_n 3, 1) := by decide +kernel
theorem dL_law_2175 : decode (dc DL_law) 2175 = .ok (.iconst 0, 1) := by decide +kernel
theorem dL_law_2176 : decode (dc DL_law) 2176 = .ok (.laload, 1) := by decide +kernel
theorem dL_law_2177 : decode (dc DL_law) 2177 = .ok (.iload 6, 2) := by decide +kernel
theorem dL_law_2179 : decode (dc DL_law) 2179 = .ok (.i2l, 1) := by decide +kernel
theorem dL_law_2180 : decode (dc DL_law) 2180 = .ok (.lcmp, 1) := by decide +kernel
theorem dL_law_2181 : decode (dc DL_law) 2181 = .ok (.ifCond .eq 5, 3) := by decide +kernel
theorem dL_law_2184 : decode (dc DL_law) 2184 = .ok (.iconst 0, 1) := by decide +kernel
theorem dL_law_2185 : decode (dc DL_law) 2185 = .ok (.ireturn, 1) := by decide +kernel
theorem dL_law_2186 : decode (dc DL_law) 2186 = .ok (.goto 111, 3) := by decide +kernel
theorem dL_law_2189 : decode (dc DL_law) 2189 = .ok (.aload_n 1, 1) := by decide +kernel
theorem dL_law_2190 : decode (dc DL_law) 2190 = .ok (.aload_n 0, 1) := by decide +kernel
theorem dL_law_2191 : decode (dc DL_law) 2191 = .ok (.iload 4, 2) := by decide +kernel
theorem dL_law_2193 : decode (dc DL_law) 2193 = .ok (.iconst 1, 1) := by decide +kernel
theorem dL_law_2194 : decode (dc DL_law) 2194 = .ok (.iadd, 1) := by decide +kernel
theorem dL_law_2195 : decode (dc DL_law) 2195 = .ok (.iaload, 1) := by decide +kernel
theorem dL_law_2196 : decode (dc DL_law) 2196 = .ok (.aload_n 3, 1) := by decide +kernel
theorem dL_law_2197 : decode (dc DL_law) 2197 = .ok (.invokestatic 240, 3) := by decide +kernel
theorem dL_law_2200 : decode (dc DL_law) 2200 = .ok (.istore 5, 2) := by decide +kernel
theorem dL_law_2202 : decode (dc DL_law) 2202 = .ok (.aload_n 2, 1) := by decide +kernel
theorem dL_law_2203 : decode (dc DL_law) 2203 = .ok (.aload_n 0, 1) := by decide +kernel
theorem dL_law_2204 : decode (dc DL_law) 2204 = .ok (.iload 4, 2) := by decide +kernel
theorem dL_law_2206 : decode (dc DL_law) 2206 = .ok (.iconst 1, 1) := by decide +kernel
theorem dL_law_2207 : decode (dc DL_law) 2207 = .ok (.iadd, 1) := by decide +kernel
theorem dL_law_2208 : decode (dc DL_law) 2208 = .ok (.iaload, 1) := by decide +kernel
theorem dL_law_2209 : decode (dc DL_law) 2209 = .ok (.invokevirtual 242, 3) := by decide +kernel
theorem dL_law_2212 : decode (dc DL_law) 2212 = .ok (.istore 6, 2) := by decide +kernel
theorem dL_law_2214 : decode (dc DL_law) 2214 = .ok (.aload_n 2, 1) := by decide +kernel
theorem dL_law_2215 : decode (dc DL_law) 2215 = .ok (.invokevirtual 121, 3) := by decide +kernel
theorem dL_law_2218 : decode (dc DL_law) 2218 = .ok (.iload 5, 2) := by decide +kernel
theorem dL_law_2220 : decode (dc DL_law) 2220 = .ok (.if_icmp .eq 5, 3) := by decide +kernel
theorem dL_law_2223 : decode (dc DL_law) 2223 = .ok (.iconst 0, 1) := by decide +kernel
theorem dL_law_2224 : decode (dc DL_law) 2224 = .ok (.ireturn, 1) := by decide +kernel
theorem dL_law_2225 : decode (dc DL_law) 2225 = .ok (.iload 5, 2) := by decide +kernel
theorem dL_law_2227 : decode (dc DL_law) 2227 = .ok (.ifCond .ne 15, 3) := by decide +kernel
theorem dL_law_2230 : decode (dc DL_law) 2230 = .ok (.aload_n 3, 1) := by decide +kernel
theorem dL_law_2231 : decode (dc DL_law) 2231 = .ok (.iconst 0, 1) := by decide +kernel
theorem dL_law_2232 : decode (dc DL_law) 2232 = .ok (.laload, 1) := by decide +kernel
theorem dL_law_2233 : decode (dc DL_law) 2233 = .ok (.iload 6, 2) := by decide +kernel
theorem dL_law_2235 : decode (dc DL_law) 2235 = .ok (.i2l, 1) := by decide +kernel
theorem dL_law_2236 : decode (dc DL_law) 2236 = .ok (.lcmp, 1) := by decide +kernel
theorem dL_law_2237 : decode (dc DL_law) 2237 = .ok (.ifCond .eq 5, 3) := by decide +kernel
theorem dL_law_2240 : decode (dc DL_law) 2240 = .ok (.iconst 0, 1) := by decide +kernel
theorem dL_law_2241 : decode (dc DL_law) 2241 = .ok (.ireturn, 1) := by decide +kernel
theorem dL_law_2242 : decode (dc DL_law) 2242 = .ok (.goto 55, 3) := by decide +kernel
theorem dL_law_2245 : decode (dc DL_law) 2245 = .ok (.aload_n 1, 1) := by decide +kernel
theorem dL_law_2246 : decode (dc DL_law) 2246 = .ok (.invokevirtual 243, 3) := by decide +kernel
theorem dL_law_2249 : decode (dc DL_law) 2249 = .ok (.aload_n 2, 1) := by decide +kernel
theorem dL_law_2250 : decode (dc DL_law) 2250 = .ok (.invokevirtual 246, 3) := by decide +kernel
theorem dL_law_2253 : decode (dc DL_law) 2253 = .ok (.if_icmp .eq 44, 3) := by decide +kernel
theorem dL_law_2256 : decode (dc DL_law) 2256 = .ok (.iconst 0, 1) := by decide +kernel
theorem dL_law_2257 : decode (dc DL_law) 2257 = .ok (.ireturn, 1) := by decide +kernel
theorem dL_law_2258 : decode (dc DL_law) 2258 = .ok (.aload_n 1, 1) := by decide +kernel
theorem dL_law_2259 : decode (dc DL_law) 2259 = .ok (.invokevirtual 247, 3) := by decide +kernel
theorem dL_law_2262 : decode (dc DL_law) 2262 = .ok (.aload_n 2, 1) := by decide +kernel
theorem dL_law_2263 : decode (dc DL_law) 2263 = .ok (.invokevirtual 250, 3) := by decide +kernel
theorem dL_law_2266 : decode (dc DL_law) 2266 = .ok (.lcmp, 1) := by decide +kernel
theorem dL_law_2267 : decode (dc DL_law) 2267 = .ok (.ifCond .eq 30, 3) := by decide +kernel
theorem dL_law_2270 : decode (dc DL_law) 2270 = .ok (.iconst 0, 1) := by decide +kernel
theorem dL_law_2271 : decode (dc DL_law) 2271 = .ok (.ireturn, 1) := by decide +kernel
theorem dL_law_2272 : decode (dc DL_law) 2272 = .ok (.aload_n 1, 1) := by decide +kernel
theorem dL_law_2273 : decode (dc DL_law) 2273 = .ok (.aload_n 0, 1) := by decide +kernel
theorem dL_law_2274 : decode (dc DL_law) 2274 = .ok (.iload 4, 2) := by decide +kernel
theorem dL_law_2276 : decode (dc DL_law) 2276 = .ok (.iconst 1, 1) := by decide +kernel
theorem dL_law_2277 : decode (dc DL_law) 2277 = .ok (.iadd, 1) := by decide +kernel
theorem dL_law_2278 : decode (dc DL_law) 2278 = .ok (.iaload, 1) := by decide +kernel
theorem dL_law_2279 : decode (dc DL_law) 2279 = .ok (.invokevirtual 251, 3) := by decide +kernel
theorem dL_law_2282 : decode (dc DL_law) 2282 = .ok (.aload_n 2, 1) := by decide +kernel
theorem dL_law_2283 : decode (dc DL_law) 2283 = .ok (.aload_n 0, 1) := by decide +kernel
theorem dL_law_2284 : decode (dc DL_law) 2284 = .ok (.iload 4, 2) := by decide +kernel
theorem dL_law_2286 : decode (dc DL_law) 2286 = .ok (.iconst 1, 1) := by decide +kernel
theorem dL_law_2287 : decode (dc DL_law) 2287 = .ok (.iadd, 1) := by decide +kernel
theorem dL_law_2288 : decode (dc DL_law) 2288 = .ok (.iaload, 1) := by decide +kernel
theorem dL_law_2289 : decode (dc DL_law) 2289 = .ok (.invokevirtual 254, 3) := by decide +kernel
theorem dL_law_2292 : decode (dc DL_law) 2292 = .ok (.if_icmp .eq 5, 3) := by decide +kernel
theorem dL_law_2295 : decode (dc DL_law) 2295 = .ok (.iconst 0, 1) := by decide +kernel
theorem dL_law_2296 : decode (dc DL_law) 2296 = .ok (.ireturn, 1) := by decide +kernel
theorem dL_law_2297 : decode (dc DL_law) 2297 = .ok (.iinc 4 6, 3) := by decide +kernel
theorem dL_law_2300 : decode (dc DL_law) 2300 = .ok (.goto (-2277), 3) := by decide +kernel
theorem dL_law_2303 : decode (dc DL_law) 2303 = .ok (.iconst 1, 1) := by decide +kernel
theorem dL_law_2304 : decode (dc DL_law) 2304 = .ok (.ireturn, 1) := by decide +kernel
