theorem cs_20 {M : MT} {E : Ev} {b Ln : Nat} {xs : Nat → Int32} {base kc ks n : Nat} {Q : State → Prop} {am : Nat → Nat} {σ μ : St} {I : Im} (K : OKl M E b Ln xs base) (hD : DJ E am I base) (h : Rl (JI I) σ μ) (hn : n + 8 ≤ Ln) (h1 : kc + 20 ≤ 603072) (h2 : ks + 1300 ≤ 7211114) (kk : Kn M E am b base n (kc + 20) (ks + 1300) Q) : VZ M (bA base) 8 kc ks Q (Wl E am σ I μ) 1919 (LL b E am n) [] := by
  obtain ⟨k, σ', μ1, v, hW, hm, hk, hv, hR⟩ := lw_runs M.2.1 K.q.nt hD.1.O (JI I) σ μ (xs (n + 1)) (xs (n + 2)) h
  refine z_aload1 (pc := 1919) K.z dL_law_1919 ?_
  refine z_ar (pc := 1920) 1 K hn dL_law_1920 dL_law_1921 dL_law_1923 dL_law_1924 dL_law_1925 (by decide) (by decide) ?_
  refine z_ar (pc := 1926) 2 K hn dL_law_1926 dL_law_1927 dL_law_1929 dL_law_1930 dL_law_1931 (by decide) (by decide) ?_
  refine z_aload3 (pc := 1932) K.z dL_law_1932 ?_
  refine z_lW (pc := 1933) (As := [.ref (E.2.2 0), .int (xs (n + 1)), .int (xs (n + 2)), .ref (E.2.2 28)]) K hD cw_runs ml_RL_284 hW rfl rfl (by decide) (Nat.le_of_ble_eq_true rfl) (Nat.le_of_ble_eq_true rfl) h1 h2 dL_law_1933 ?_
  refine z_istore5 (pc := 1936) K.z dL_law_1936 rfl (by decide) ?_
  refine z_aload2 (pc := 1938) K.z dL_law_1938 ?_
  refine z_ar (pc := 1939) 1 K hn dL_law_1939 dL_law_1940 dL_law_1942 dL_law_1943 dL_law_1944 (by decide) (by decide) ?_
  refine z_ar (pc := 1945) 2 K hn dL_law_1945 dL_law_1946 dL_law_1948 dL_law_1949 dL_law_1950 (by decide) (by decide) ?_
  refine z_lM (pc := 1951) (As := [.int (xs (n + 1)), .int (xs (n + 2))]) K hD ca_yX4_runs ml_RL_286 rfl (t_X4_runs _ K.q.nt hD.2.1 μ (xs (n + 1)) (xs (n + 2)) (v, μ1) hm) rfl rfl (by decide) (Nat.le_of_ble_eq_true rfl) (Nat.le_of_ble_eq_true rfl) h1 h2 dL_law_1951 ?_
  exact z_tI (pc := 1954) K hD hR hk hv h1 h2 dL_law_1954 dL_law_1956 dL_law_1957 dL_law_1960 dL_law_1962 dL_law_1967 dL_law_1969 dL_law_1972 dL_law_1973 dL_law_1974 dL_law_1975 dL_law_1977 dL_law_1978 dL_law_1979 dL_law_1984 (by decide) kk
theorem cs_21 {M : MT} {E : Ev} {b Ln : Nat} {xs : Nat → Int32} {base kc ks n : Nat} {Q : State → Prop} {am : Nat → Nat} {σ μ : St} {I : Im} (K : OKl M E b Ln xs base) (hD : DJ E am I base) (h : Rl (JI I) σ μ) (hn : n + 8 ≤ Ln) (h1 : kc + 20 ≤ 603072) (h2 : ks + 1300 ≤ 7211114) (kk : Kn M E am b base n (kc + 20) (ks + 1300) Q) : VZ M (bA base) 8 kc ks Q (Wl E am σ I μ) 1987 (LL b E am n) [] := by
  obtain ⟨k, σ', μ1, v, hW, hm, hk, hv, hR⟩ := lw_alike M.2.1 K.q.nt hD.1.O (JI I) σ μ (xs (n + 1)) (xs (n + 2)) h
  refine z_aload1 (pc := 1987) K.z dL_law_1987 ?_
  refine z_ar (pc := 1988) 1 K hn dL_law_1988 dL_law_1989 dL_law_1991 dL_law_1992 dL_law_1993 (by decide) (by decide) ?_
  refine z_ar (pc := 1994) 2 K hn dL_law_1994 dL_law_1995 dL_law_1997 dL_law_1998 dL_law_1999 (by decide) (by decide) ?_
  refine z_aload3 (pc := 2000) K.z dL_law_2000 ?_
  refine z_lW (pc := 2001) (As := [.ref (E.2.2 0), .int (xs (n + 1)), .int (xs (n + 2)), .ref (E.2.2 28)]) K hD cw_alike ml_RL_287 hW rfl rfl (by decide) (Nat.le_of_ble_eq_true rfl) (Nat.le_of_ble_eq_true rfl) h1 h2 dL_law_2001 ?_
  refine z_istore5 (pc := 2004) K.z dL_law_2004 rfl (by decide) ?_
  refine z_aload2 (pc := 2006) K.z dL_law_2006 ?_
  refine z_ar (pc := 2007) 1 K hn dL_law_2007 dL_law_2008 dL_law_2010 dL_law_2011 dL_law_2012 (by decide) (by decide) ?_
  refine z_ar (pc := 2013) 2 K hn dL_law_2013 dL_law_2014 dL_law_2016 dL_law_2017 dL_law_2018 (by decide) (by decide) ?_
  refine z_lM (pc := 2019) (As := [.int (xs (n + 1)), .int (xs (n + 2))]) K hD ca_yX4_alike ml_RL_289 rfl (t_X4_alike _ K.q.nt hD.2.1 μ (xs (n + 1)) (xs (n + 2)) (v, μ1) hm) rfl rfl (by decide) (Nat.le_of_ble_eq_true rfl) (Nat.le_of_ble_eq_true rfl) h1 h2 dL_law_2019 ?_
  exact z_tI (pc := 2022) K hD hR hk hv h1 h2 dL_law_2022 dL_law_2024 dL_law_2025 dL_law_2028 dL_law_2030 dL_law_2035 dL_law_2037 dL_law_2040 dL_law_2041 dL_law_2042 dL_law_2043 dL_law_2045 dL_law_2046 dL_law_2047 dL_law_2052 (by decide) kk
theorem cs_22 {M : MT} {E : Ev} {b Ln : Nat} {xs : Nat → Int32} {base kc ks n : Nat} {Q : State → Prop} {am : Nat → Nat} {σ μ : St} {I : Im} (K : OKl M E b Ln xs base) (hD : DJ E am I base) (h : Rl (JI I) σ μ) (hn : n + 8 ≤ Ln) (h1 : kc + 20 ≤ 603072) (h2 : ks + 1300 ≤ 7211114) (kk : Kn M E am b base n (kc + 20) (ks + 1300) Q) : VZ M (bA base) 8 kc ks Q (Wl E am σ I μ) 2055 (LL b E am n) [] := by
  obtain ⟨k, σ', μ1, v, hW, hm, hk, hv, hR⟩ := lw_row M.2.1 K.q.nt hD.1.O (JI I) σ μ (xs (n + 1)) (xs (n + 2)) h
  refine z_aload1 (pc := 2055) K.z dL_law_2055 ?_
  refine z_ar (pc := 2056) 1 K hn dL_law_2056 dL_law_2057 dL_law_2059 dL_law_2060 dL_law_2061 (by decide) (by decide) ?_
  refine z_ar (pc := 2062) 2 K hn dL_law_2062 dL_law_2063 dL_law_2065 dL_law_2066 dL_law_2067 (by decide) (by decide) ?_
  refine z_aload3 (pc := 2068) K.z dL_law_2068 ?_
  refine z_lW (pc := 2069) (As := [.ref (E.2.2 0), .int (xs (n + 1)), .int (xs (n + 2)), .ref (E.2.2 28)]) K hD cw_row ml_RL_290 hW rfl rfl (by decide) (Nat.le_of_ble_eq_true rfl) (Nat.le_of_ble_eq_true rfl) h1 h2 dL_law_2069 ?_
  refine z_istore5 (pc := 2072) K.z dL_law_2072 rfl (by decide) ?_
  refine z_aload2 (pc := 2074) K.z dL_law_2074 ?_
  refine z_ar (pc := 2075) 1 K hn dL_law_2075 dL_law_2076 dL_law_2078 dL_law_2079 dL_law_2080 (by decide) (by decide) ?_
  refine z_ar (pc := 2081) 2 K hn dL_law_2081 dL_law_2082 dL_law_2084 dL_law_2085 dL_law_2086 (by decide) (by decide) ?_
  refine z_lM (pc := 2087) (As := [.int (xs (n + 1)), .int (xs (n + 2))]) K hD ca_yX4_row ml_RL_292 rfl (t_X4_row _ K.q.nt hD.2.1 μ (xs (n + 1)) (xs (n + 2)) (v, μ1) hm) rfl rfl (by decide) (Nat.le_of_ble_eq_true rfl) (Nat.le_of_ble_eq_true rfl) h1 h2 dL_law_2087 ?_
  exact z_tI (pc := 2090) K hD hR hk hv h1 h2 dL_law_2090 dL_law_2092 dL_law_2093 dL_law_2096 dL_law_2098 dL_law_2103 dL_law_2105 dL_law_2108 dL_law_2109 dL_law_2110 dL_law_2111 dL_law_2113 dL_law_2114 dL_law_2115 dL_law_2120 (by decide) kk
theorem cs_23 {M : MT} {E : Ev} {b Ln : Nat} {xs : Nat → Int32} {base kc ks n : Nat} {Q : State → Prop} {am : Nat → Nat} {σ μ : St} {I : Im} (K : OKl M E b Ln xs base) (hD : DJ E am I base) (h : Rl (JI I) σ μ) (hn : n + 8 ≤ Ln) (h1 : kc + 20 ≤ 603072) (h2 : ks + 1300 ≤ 7211114) (kk : Kn M E am b base n (kc + 20) (ks + 1300) Q) : VZ M (bA base) 8 kc ks Q (Wl E am σ I μ) 2123 (LL b E am n) [] := by
  obtain ⟨k, σ', μ1, v, hW, hm, hk, hv, hR⟩ := lw_word M.2.1 K.q.nt hD.1.O (JI I) σ μ (xs (n + 1)) (xs (n + 2)) h
  refine z_aload1 (pc := 2123) K.z dL_law_2123 ?_
  refine z_ar (pc := 2124) 1 K hn dL_law_2124 dL_law_2125 dL_law_2127 dL_law_2128 dL_law_2129 (by decide) (by decide) ?_
  refine z_ar (pc := 2130) 2 K hn dL_law_2130 dL_law_2131 dL_law_2133 dL_law_2134 dL_law_2135 (by decide) (by decide) ?_
  refine z_aload3 (pc := 2136) K.z dL_law_2136 ?_
  refine z_lW (pc := 2137) (As := [.ref (E.2.2 0), .int (xs (n + 1)), .int (xs (n + 2)), .ref (E.2.2 28)]) K hD cw_word ml_RL_293 hW rfl rfl (by decide) (Nat.le_of_ble_eq_true rfl) (Nat.le_of_ble_eq_true rfl) h1 h2 dL_law_2137 ?_
  refine z_istore5 (pc := 2140) K.z dL_law_2140 rfl (by decide) ?_
  refine z_aload2 (pc := 2142) K.z dL_law_2142 ?_
  refine z_ar (pc := 2143) 1 K hn dL_law_2143 dL_law_2144 dL_law_2146 dL_law_2147 dL_law_2148 (by decide) (by decide) ?_
  refine z_ar (pc := 2149) 2 K hn dL_law_2149 dL_law_2150 dL_law_2152 dL_law_2153 dL_law_2154 (by decide) (by decide) ?_
  refine z_lM (pc := 2155) (As := [.int (xs (n + 1)), .int (xs (n + 2))]) K hD ca_yX4_word ml_RL_295 rfl (t_X4_word _ K.q.nt hD.2.1 μ (xs (n + 1)) (xs (n + 2)) (v, μ1) hm) rfl rfl (by decide) (Nat.le_of_ble_eq_true rfl) (Nat.le_of_ble_eq_true rfl) h1 h2 dL_law_2155 ?_
  exact z_tL (pc := 2158) K hD hR hk hv h1 h2 dL_law_2158 dL_law_2160 dL_law_2161 dL_law_2164 dL_law_2166 dL_law_2171 dL_law_2173 dL_law_2176 dL_law_2177 dL_law_2178 dL_law_2179 dL_law_2181 dL_law_2182 dL_law_2187 (by decide) kk
theorem cs_24 {M : MT} {E : Ev} {b Ln : Nat} {xs : Nat → Int32} {base kc ks n : Nat} {Q : State → Prop} {am : Nat → Nat} {σ μ : St} {I : Im} (K : OKl M E b Ln xs base) (hD : DJ E am I base) (h : Rl (JI I) σ μ) (hn : n + 8 ≤ Ln) (h1 : kc + 20 ≤ 603072) (h2 : ks + 1300 ≤ 7211114) (kk : Kn M E am b base n (kc + 20) (ks + 1300) Q) : VZ M (bA base) 8 kc ks Q (Wl E am σ I μ) 2190 (LL b E am n) [] := by
  obtain ⟨k, σ', μ1, v, hW, hm, hk, hv, hR⟩ := lw_count M.2.1 K.q.nt hD.1.O (JI I) σ μ (xs (n + 1)) (xs (n + 2)) h
  refine z_aload1 (pc := 2190) K.z dL_law_2190 ?_
  refine z_ar (pc := 2191) 1 K hn dL_law_2191 dL_law_2192 dL_law_2194 dL_law_2195 dL_law_2196 (by decide) (by decide) ?_
  refine z_ar (pc := 2197) 2 K hn dL_law_2197 dL_law_2198 dL_law_2200 dL_law_2201 dL_law_2202 (by decide) (by decide) ?_
  refine z_aload3 (pc := 2203) K.z dL_law_2203 ?_
  refine z_lW (pc := 2204) (As := [.ref (E.2.2 0), .int (xs (n + 1)), .int (xs (n + 2)), .ref (E.2.2 28)]) K hD cw_count ml_RL_296 hW rfl rfl (by decide) (Nat.le_of_ble_eq_true rfl) (Nat.le_of_ble_eq_true rfl) h1 h2 dL_law_2204 ?_
  refine z_istore5 (pc := 2207) K.z dL_law_2207 rfl (by decide) ?_
  refine z_aload2 (pc := 2209) K.z dL_law_2209 ?_
  refine z_ar (pc := 2210) 1 K hn dL_law_2210 dL_law_2211 dL_law_2213 dL_law_2214 dL_law_2215 (by decide) (by decide) ?_
  refine z_ar (pc := 2216) 2 K hn dL_law_2216 dL_law_2217 dL_law_2219 dL_law_2220 dL_law_2221 (by decide) (by decide) ?_
  refine z_lM (pc := 2222) (As := [.int (xs (n + 1)), .int (xs (n + 2))]) K hD ca_yX4_count ml_RL_298 rfl (t_X4_count _ K.q.nt hD.2.1 μ (xs (n + 1)) (xs (n + 2)) (v, μ1) hm) rfl rfl (by decide) (Nat.le_of_ble_eq_true rfl) (Nat.le_of_ble_eq_true rfl) h1 h2 dL_law_2222 ?_
  exact z_tI (pc := 2225) K hD hR hk hv h1 h2 dL_law_2225 dL_law_2227 dL_law_2228 dL_law_2231 dL_law_2233 dL_law_2238 dL_law_2240 dL_law_2243 dL_law_2244 dL_law_2245 dL_law_2246 dL_law_2248 dL_law_2249 dL_law_2250 dL_law_2255 (by decide) kk
theorem cs_25 {M : MT} {E : Ev} {b Ln : Nat} {xs : Nat → Int32} {base kc ks n : Nat} {Q : State → Prop} {am : Nat → Nat} {σ μ : St} {I : Im} (K : OKl M E b Ln xs base) (hD : DJ E am I base) (h : Rl (JI I) σ μ) (hn : n + 8 ≤ Ln) (h1 : kc + 20 ≤ 603072) (h2 : ks + 1300 ≤ 7211114) (kk : Kn M E am b base n (kc + 20) (ks + 1300) Q) : VZ M (bA base) 8 kc ks Q (Wl E am σ I μ) 2258 (LL b E am n) [] := by
  obtain ⟨k, σ', μ1, v, hW, hm, hk, hv, hR⟩ := lw_sum M.2.1 K.q.nt hD.1.O (JI I) σ μ (xs (n + 1)) (xs (n + 2)) h
  refine z_aload1 (pc := 2258) K.z dL_law_2258 ?_
  refine z_ar (pc := 2259) 1 K hn dL_law_2259 dL_law_2260 dL_law_2262 dL_law_2263 dL_law_2264 (by decide) (by decide) ?_
  refine z_ar (pc := 2265) 2 K hn dL_law_2265 dL_law_2266 dL_law_2268 dL_law_2269 dL_law_2270 (by decide) (by decide) ?_
  refine z_aload3 (pc := 2271) K.z dL_law_2271 ?_
  refine z_lW (pc := 2272) (As := [.ref (E.2.2 0), .int (xs (n + 1)), .int (xs (n + 2)), .ref (E.2.2 28)]) K hD cw_sum ml_RL_299 hW rfl rfl (by decide) (Nat.le_of_ble_eq_true rfl) (Nat.le_of_ble_eq_true rfl) h1 h2 dL_law_2272 ?_
  refine z_istore5 (pc := 2275) K.z dL_law_2275 rfl (by decide) ?_
  refine z_aload2 (pc := 2277) K.z dL_law_2277 ?_
  refine z_ar (pc := 2278) 1 K hn dL_law_2278 dL_law_2279 dL_law_2281 dL_law_2282 dL_law_2283 (by decide) (by decide) ?_
  refine z_ar (pc := 2284) 2 K hn dL_law_2284 dL_law_2285 dL_law_2287 dL_law_2288 dL_law_2289 (by decide) (by decide) ?_
  refine z_lM (pc := 2290) (As := [.int (xs (n + 1)), .int (xs (n + 2))]) K hD ca_yX4_sum ml_RL_301 rfl (t_X4_sum _ K.q.nt hD.2.1 μ (xs (n + 1)) (xs (n + 2)) (v, μ1) hm) rfl rfl (by decide) (Nat.le_of_ble_eq_true rfl) (Nat.le_of_ble_eq_true rfl) h1 h2 dL_law_2290 ?_
  exact z_tL (pc := 2293) K hD hR hk hv h1 h2 dL_law_2293 dL_law_2295 dL_law_2296 dL_law_2299 dL_law_2301 dL_law_2306 dL_law_2308 dL_law_2311 dL_law_2312 dL_law_2313 dL_law_2314 dL_law_2316 dL_law_2317 dL_law_2322 (by decide) kk
theorem cs_26 {M : MT} {E : Ev} {b Ln : Nat} {xs : Nat → Int32} {base kc ks n : Nat} {Q : State → Prop} {am : Nat → Nat} {σ μ : St} {I : Im} (K : OKl M E b Ln xs base) (hD : DJ E am I base) (h : Rl (JI I) σ μ) (hn : n + 8 ≤ Ln) (h1 : kc + 20 ≤ 603072) (h2 : ks + 1300 ≤ 7211114) (kk : Kn M E am b base n (kc + 20) (ks + 1300) Q) : VZ M (bA base) 8 kc ks Q (Wl E am σ I μ) 2325 (LL b E am n) [] := by
  obtain ⟨k, σ', μ1, v, hW, hm, hk, hv, hR⟩ := lw_mean M.2.1 K.q.nt hD.1.O (JI I) σ μ (xs (n + 1)) (xs (n + 2)) (xs (n + 3)) h
  refine z_aload1 (pc := 2325) K.z dL_law_2325 ?_
  refine z_ar (pc := 2326) 1 K hn dL_law_2326 dL_law_2327 dL_law_2329 dL_law_2330 dL_law_2331 (by decide) (by decide) ?_
  refine z_ar (pc := 2332) 2 K hn dL_law_2332 dL_law_2333 dL_law_2335 dL_law_2336 dL_law_2337 (by decide) (by decide) ?_
  refine z_ar (pc := 2338) 3 K hn dL_law_2338 dL_law_2339 dL_law_2341 dL_law_2342 dL_law_2343 (by decide) (by decide) ?_
  refine z_aload3 (pc := 2344) K.z dL_law_2344 ?_
  refine z_lW (pc := 2345) (As := [.ref (E.2.2 0), .int (xs (n + 1)), .int (xs (n + 2)), .int (xs (n + 3)), .ref (E.2.2 28)]) K hD cw_mean ml_RL_302 hW rfl rfl (by decide) (Nat.le_of_ble_eq_true rfl) (Nat.le_of_ble_eq_true rfl) h1 h2 dL_law_2345 ?_
  refine z_istore5 (pc := 2348) K.z dL_law_2348 rfl (by decide) ?_
  refine z_aload2 (pc := 2350) K.z dL_law_2350 ?_
  refine z_ar (pc := 2351) 1 K hn dL_law_2351 dL_law_2352 dL_law_2354 dL_law_2355 dL_law_2356 (by decide) (by decide) ?_
  refine z_ar (pc := 2357) 2 K hn dL_law_2357 dL_law_2358 dL_law_2360 dL_law_2361 dL_law_2362 (by decide) (by decide) ?_
  refine z_ar (pc := 2363) 3 K hn dL_law_2363 dL_law_2364 dL_law_2366 dL_law_2367 dL_law_2368 (by decide) (by decide) ?_
  refine z_lM (pc := 2369) (As := [.int (xs (n + 1)), .int (xs (n + 2)), .int (xs (n + 3))]) K hD ca_yX4_mean ml_RL_304 rfl (t_X4_mean _ K.q.nt hD.2.1 μ (xs (n + 1)) (xs (n + 2)) (xs (n + 3)) (v, μ1) hm) rfl rfl (by decide) (Nat.le_of_ble_eq_true rfl) (Nat.le_of_ble_eq_true rfl) h1 h2 dL_law_2369 ?_
  exact z_tL (pc := 2372) K hD hR hk hv h1 h2 dL_law_2372 dL_law_2374 dL_law_2375 dL_law_2378 dL_law_2380 dL_law_2385 dL_law_2387 dL_law_2390 dL_law_2391 dL_law_2392 dL_law_2393 dL_law_2395 dL_law_2396 dL_law_2401 (by decide) kk
theorem cs_27 {M : MT} {E : Ev} {b Ln : Nat} {xs : Nat → Int32} {base kc ks n : Nat} {Q : State → Prop} {am : Nat → Nat} {σ μ : St} {I : Im} (K : OKl M E b Ln xs base) (hD : DJ E am I base) (h : Rl (JI I) σ μ) (hn : n + 8 ≤ Ln) (h1 : kc + 20 ≤ 603072) (h2 : ks + 1300 ≤ 7211114) (kk : Kn M E am b base n (kc + 20) (ks + 1300) Q) : VZ M (bA base) 8 kc ks Q (Wl E am σ I μ) 2404 (LL b E am n) [] := by
  obtain ⟨k, σ', μ1, v, hW, hm, hk, hv, hR⟩ := lw_kth M.2.1 K.q.nt hD.1.O (JI I) σ μ (xs (n + 1)) (xs (n + 2)) (xs (n + 3)) h
  refine z_aload1 (pc := 2404) K.z dL_law_2404 ?_
  refine z_ar (pc := 2405) 1 K hn dL_law_2405 dL_law_2406 dL_law_2408 dL_law_2409 dL_law_2410 (by decide) (by decide) ?_
  refine z_ar (pc := 2411) 2 K hn dL_law_2411 dL_law_2412 dL_law_2414 dL_law_2415 dL_law_2416 (by decide) (by decide) ?_
  refine z_ar (pc := 2417) 3 K hn dL_law_2417 dL_law_2418 dL_law_2420 dL_law_2421 dL_law_2422 (by decide) (by decide) ?_
  refine z_aload3 (pc := 2423) K.z dL_law_2423 ?_
  refine z_lW (pc := 2424) (As := [.ref (E.2.2 0), .int (xs (n + 1)), .int (xs (n + 2)), .int (xs (n + 3)), .ref (E.2.2 28)]) K hD cw_kth ml_RL_305 hW rfl rfl (by decide) (Nat.le_of_ble_eq_true rfl) (Nat.le_of_ble_eq_true rfl) h1 h2 dL_law_2424 ?_
  refine z_istore5 (pc := 2427) K.z dL_law_2427 rfl (by decide) ?_
  refine z_aload2 (pc := 2429) K.z dL_law_2429 ?_
  refine z_ar (pc := 2430) 1 K hn dL_law_2430 dL_law_2431 dL_law_2433 dL_law_2434 dL_law_2435 (by decide) (by decide) ?_
  refine z_ar (pc := 2436) 2 K hn dL_law_2436 dL_law_2437 dL_law_2439 dL_law_2440 dL_law_2441 (by decide) (by decide) ?_
  refine z_ar (pc := 2442) 3 K hn dL_law_2442 dL_law_2443 dL_law_2445 dL_law_2446 dL_law_2447 (by decide) (by decide) ?_
  refine z_lM (pc := 2448) (As := [.int (xs (n + 1)), .int (xs (n + 2)), .int (xs (n + 3))]) K hD ca_yX4_kth ml_RL_307 rfl (t_X4_kth _ K.q.nt hD.2.1 μ (xs (n + 1)) (xs (n + 2)) (xs (n + 3)) (v, μ1) hm) rfl rfl (by decide) (Nat.le_of_ble_eq_true rfl) (Nat.le_of_ble_eq_true rfl) h1 h2 dL_law_2448 ?_
  exact z_tL (pc := 2451) K hD hR hk hv h1 h2 dL_law_2451 dL_law_2453 dL_law_2454 dL_law_2457 dL_law_2459 dL_law_2464 dL_law_2466 dL_law_2469 dL_law_2470 dL_law_2471 dL_law_2472 dL_law_2474 dL_law_2475 dL_law_2480 (by decide) kk
theorem cs_28 {M : MT} {E : Ev} {b Ln : Nat} {xs : Nat → Int32} {base kc ks n : Nat} {Q : State → Prop} {am : Nat → Nat} {σ μ : St} {I : Im} (K : OKl M E b Ln xs base) (hD : DJ E am I base) (h : Rl (JI I) σ μ) (hn : n + 8 ≤ Ln) (h1 : kc + 20 ≤ 603072) (h2 : ks + 1300 ≤ 7211114) (kk : Kn M E am b base n (kc + 20) (ks + 1300) Q) : VZ M (bA base) 8 kc ks Q (Wl E am σ I μ) 2483 (LL b E am n) [] := by
  obtain ⟨k, σ', μ1, v, hW, hm, hk, hv, hR⟩ := lw_share M.2.1 K.q.nt hD.1.O (JI I) σ μ (xs (n + 1)) (xs (n + 2)) (xs (n + 3)) (xs (n + 4)) h
  refine z_aload1 (pc := 2483) K.z dL_law_2483 ?_
  refine z_ar (pc := 2484) 1 K hn dL_law_2484 dL_law_2485 dL_law_2487 dL_law_2488 dL_law_2489 (by decide) (by decide) ?_
  refine z_ar (pc := 2490) 2 K hn dL_law_2490 dL_law_2491 dL_law_2493 dL_law_2494 dL_law_2495 (by decide) (by decide) ?_
  refine z_ar (pc := 2496) 3 K hn dL_law_2496 dL_law_2497 dL_law_2499 dL_law_2500 dL_law_2501 (by decide) (by decide) ?_
  refine z_ar (pc := 2502) 4 K hn dL_law_2502 dL_law_2503 dL_law_2505 dL_law_2506 dL_law_2507 (by decide) (by decide) ?_
  refine z_aload3 (pc := 2508) K.z dL_law_2508 ?_
  refine z_lW (pc := 2509) (As := [.ref (E.2.2 0), .int (xs (n + 1)), .int (xs (n + 2)), .int (xs (n + 3)), .int (xs (n + 4)), .ref (E.2.2 28)]) K hD cw_share ml_RL_308 hW rfl rfl (by decide) (Nat.le_of_ble_eq_true rfl) (Nat.le_of_ble_eq_true rfl) h1 h2 dL_law_2509 ?_
  refine z_istore5 (pc := 2512) K.z dL_law_2512 rfl (by decide) ?_
  refine z_aload2 (pc := 2514) K.z dL_law_2514 ?_
  refine z_ar (pc := 2515) 1 K hn dL_law_2515 dL_law_2516 dL_law_2518 dL_law_2519 dL_law_2520 (by decide) (by decide) ?_
  refine z_ar (pc := 2521) 2 K hn dL_law_2521 dL_law_2522 dL_law_2524 dL_law_2525 dL_law_2526 (by decide) (by decide) ?_
  refine z_ar (pc := 2527) 3 K hn dL_law_2527 dL_law_2528 dL_law_2530 dL_law_2531 dL_law_2532 (by decide) (by decide) ?_
  refine z_ar (pc := 2533) 4 K hn dL_law_2533 dL_law_2534 dL_law_2536 dL_law_2537 dL_law_2538 (by decide) (by decide) ?_
  refine z_lM (pc := 2539) (As := [.int (xs (n + 1)), .int (xs (n + 2)), .int (xs (n + 3)), .int (xs (n + 4))]) K hD ca_yX4_share ml_RL_310 rfl (t_X4_share _ K.q.nt hD.2.1 μ (xs (n + 1)) (xs (n + 2)) (xs (n + 3)) (xs (n + 4)) (v, μ1) hm) rfl rfl (by decide) (Nat.le_of_ble_eq_true rfl) (Nat.le_of_ble_eq_true rfl) h1 h2 dL_law_2539 ?_
  exact z_tL (pc := 2542) K hD hR hk hv h1 h2 dL_law_2542 dL_law_2544 dL_law_2545 dL_law_2548 dL_law_2550 dL_law_2555 dL_law_2557 dL_law_2560 dL_law_2561 dL_law_2562 dL_law_2563 dL_law_2565 dL_law_2566 dL_law_2571 (by decide) kk
theorem cs_29 {M : MT} {E : Ev} {b Ln : Nat} {xs : Nat → Int32} {base kc ks n : Nat} {Q : State → Prop} {am : Nat → Nat} {σ μ : St} {I : Im} (K : OKl M E b Ln xs base) (hD : DJ E am I base) (h : Rl (JI I) σ μ) (hn : n + 8 ≤ Ln) (h1 : kc + 20 ≤ 603072) (h2 : ks + 1300 ≤ 7211114) (kk : Kn M E am b base n (kc + 20) (ks + 1300) Q) : VZ M (bA base) 8 kc ks Q (Wl E am σ I μ) 2574 (LL b E am n) [] := by
  obtain ⟨k, σ', μ1, v, hW, hm, hk, hv, hR⟩ := lw_upset M.2.1 K.q.nt hD.1.O (JI I) σ μ (xs (n + 1)) (xs (n + 2)) h
  refine z_aload1 (pc := 2574) K.z dL_law_2574 ?_
  refine z_ar (pc := 2575) 1 K hn dL_law_2575 dL_law_2576 dL_law_2578 dL_law_2579 dL_law_2580 (by decide) (by decide) ?_
  refine z_ar (pc := 2581) 2 K hn dL_law_2581 dL_law_2582 dL_law_2584 dL_law_2585 dL_law_2586 (by decide) (by decide) ?_
  refine z_aload3 (pc := 2587) K.z dL_law_2587 ?_
  refine z_lW (pc := 2588) (As := [.ref (E.2.2 0), .int (xs (n + 1)), .int (xs (n + 2)), .ref (E.2.2 28)]) K hD cw_upset ml_RL_311 hW rfl rfl (by decide) (Nat.le_of_ble_eq_true rfl) (Nat.le_of_ble_eq_true rfl) h1 h2 dL_law_2588 ?_
  refine z_istore5 (pc := 2591) K.z dL_law_2591 rfl (by decide) ?_
  refine z_aload2 (pc := 2593) K.z dL_law_2593 ?_
  refine z_ar (pc := 2594) 1 K hn dL_law_2594 dL_law_2595 dL_law_2597 dL_law_2598 dL_law_2599 (by decide) (by decide) ?_
  refine z_ar (pc := 2600) 2 K hn dL_law_2600 dL_law_2601 dL_law_2603 dL_law_2604 dL_law_2605 (by decide) (by decide) ?_
  refine z_lM (pc := 2606) (As := [.int (xs (n + 1)), .int (xs (n + 2))]) K hD ca_yX4_upset ml_RL_313 rfl (t_X4_upset _ K.q.nt hD.2.1 μ (xs (n + 1)) (xs (n + 2)) (v, μ1) hm) rfl rfl (by decide) (Nat.le_of_ble_eq_true rfl) (Nat.le_of_ble_eq_true rfl) h1 h2 dL_law_2606 ?_
  exact z_tI (pc := 2609) K hD hR hk hv h1 h2 dL_law_2609 dL_law_2611 dL_law_2612 dL_law_2615 dL_law_2617 dL_law_2622 dL_law_2624 dL_law_2627 dL_law_2628 dL_law_2629 dL_law_2630 dL_law_2632 dL_law_2633 dL_law_2634 dL_law_2639 (by decide) kk
theorem cs_30 {M : MT} {E : Ev} {b Ln : Nat} {xs : Nat → Int32} {base kc ks n : Nat} {Q : State → Prop} {am : Nat → Nat} {σ μ : St} {I : Im} (K : OKl M E b Ln xs base) (hD : DJ E am I base) (h : Rl (JI I) σ μ) (hn : n + 8 ≤ Ln) (h1 : kc + 20 ≤ 603072) (h2 : ks + 1300 ≤ 7211114) (kk : Kn M E am b base n (kc + 20) (ks + 1300) Q) : VZ M (bA base) 8 kc ks Q (Wl E am σ I μ) 2642 (LL b E am n) [] := by
  obtain ⟨k, σ', μ1, v, hW, hm, hk, hv, hR⟩ := lw_rank M.2.1 K.q.nt hD.1.O (JI I) σ μ (xs (n + 1)) (xs (n + 2)) (lgv (xs (n + 3)) (xs (n + 4))) (xs (n + 5)) h
  refine z_aload1 (pc := 2642) K.z dL_law_2642 ?_
  refine z_ar (pc := 2643) 1 K hn dL_law_2643 dL_law_2644 dL_law_2646 dL_law_2647 dL_law_2648 (by decide) (by decide) ?_
  refine z_ar (pc := 2649) 2 K hn dL_law_2649 dL_law_2650 dL_law_2652 dL_law_2653 dL_law_2654 (by decide) (by decide) ?_
  refine z_ar (pc := 2655) 3 K hn dL_law_2655 dL_law_2656 dL_law_2658 dL_law_2659 dL_law_2660 (by decide) (by decide) ?_
  refine z_hi (pc := 2661) K dL_law_2661 dL_law_2662 dL_law_2664 ?_
  refine z_ar (pc := 2665) 4 K hn dL_law_2665 dL_law_2666 dL_law_2668 dL_law_2669 dL_law_2670 (by decide) (by decide) ?_
  refine z_lo (pc := 2671) K dL_law_2671 dL_law_2672 dL_law_2675 dL_law_2676 ?_
  refine z_ar (pc := 2677) 5 K hn dL_law_2677 dL_law_2678 dL_law_2680 dL_law_2681 dL_law_2682 (by decide) (by decide) ?_
  refine z_aload3 (pc := 2683) K.z dL_law_2683 ?_
  refine z_lW (pc := 2684) (As := [.ref (E.2.2 0), .int (xs (n + 1)), .int (xs (n + 2)), .long (lgv (xs (n + 3)) (xs (n + 4))), .int (xs (n + 5)), .ref (E.2.2 28)]) K hD cw_rank ml_RL_314 hW rfl rfl (by decide) (Nat.le_of_ble_eq_true rfl) (Nat.le_of_ble_eq_true rfl) h1 h2 dL_law_2684 ?_
  refine z_istore5 (pc := 2687) K.z dL_law_2687 rfl (by decide) ?_
  refine z_aload2 (pc := 2689) K.z dL_law_2689 ?_
  refine z_ar (pc := 2690) 1 K hn dL_law_2690 dL_law_2691 dL_law_2693 dL_law_2694 dL_law_2695 (by decide) (by decide) ?_
  refine z_ar (pc := 2696) 2 K hn dL_law_2696 dL_law_2697 dL_law_2699 dL_law_2700 dL_law_2701 (by decide) (by decide) ?_
  refine z_ar (pc := 2702) 3 K hn dL_law_2702 dL_law_2703 dL_law_2705 dL_law_2706 dL_law_2707 (by decide) (by decide) ?_
  refine z_hi (pc := 2708) K dL_law_2708 dL_law_2709 dL_law_2711 ?_
  refine z_ar (pc := 2712) 4 K hn dL_law_2712 dL_law_2713 dL_law_2715 dL_law_2716 dL_law_2717 (by decide) (by decide) ?_
  refine z_lo (pc := 2718) K dL_law_2718 dL_law_2719 dL_law_2722 dL_law_2723 ?_
  refine z_ar (pc := 2724) 5 K hn dL_law_2724 dL_law_2725 dL_law_2727 dL_law_2728 dL_law_2729 (by decide) (by decide) ?_
  refine z_lM (pc := 2730) (As := [.int (xs (n + 1)), .int (xs (n + 2)), .long (lgv (xs (n + 3)) (xs (n + 4))), .int (xs (n + 5))]) K hD ca_yX4_rank ml_RL_317 rfl (t_X4_rank _ K.q.nt hD.2.1 μ (xs (n + 1)) (xs (n + 2)) (lgv (xs (n + 3)) (xs (n + 4))) (xs (n + 5)) (v, μ1) hm) rfl rfl (by decide) (Nat.le_of_ble_eq_true rfl) (Nat.le_of_ble_eq_true rfl) h1 h2 dL_law_2730 ?_
  exact z_tI (pc := 2733) K hD hR hk hv h1 h2 dL_law_2733 dL_law_2735 dL_law_2736 dL_law_2739 dL_law_2741 dL_law_2746 dL_law_2748 dL_law_2751 dL_law_2752 dL_law_2753 dL_law_2754 dL_law_2756 dL_law_2757 dL_law_2758 dL_law_2763 (by decide) kk
theorem cs_31 {M : MT} {E : Ev} {b Ln : Nat} {xs : Nat → Int32} {base kc ks n : Nat} {Q : State → Prop} {am : Nat → Nat} {σ μ : St} {I : Im} (K : OKl M E b Ln xs base) (hD : DJ E am I base) (h : Rl (JI I) σ μ) (hn : n + 8 ≤ Ln) (h1 : kc + 20 ≤ 603072) (h2 : ks + 1300 ≤ 7211114) (kk : Kn M E am b base n (kc + 20) (ks + 1300) Q) : VZ M (bA base) 8 kc ks Q (Wl E am σ I μ) 2766 (LL b E am n) [] := by
  obtain ⟨k, σ', μ1, v, hW, hm, hk, hv, hR⟩ := lw_unlike M.2.1 K.q.nt hD.1.O (JI I) σ μ (xs (n + 1)) (xs (n + 2)) (xs (n + 3)) h
  refine z_aload1 (pc := 2766) K.z dL_law_2766 ?_
  refine z_ar (pc := 2767) 1 K hn dL_law_2767 dL_law_2768 dL_law_2770 dL_law_2771 dL_law_2772 (by decide) (by decide) ?_
  refine z_ar (pc := 2773) 2 K hn dL_law_2773 dL_law_2774 dL_law_2776 dL_law_2777 dL_law_2778 (by decide) (by decide) ?_
  refine z_ar (pc := 2779) 3 K hn dL_law_2779 dL_law_2780 dL_law_2782 dL_law_2783 dL_law_2784 (by decide) (by decide) ?_
  refine z_aload3 (pc := 2785) K.z dL_law_2785 ?_
  refine z_lW (pc := 2786) (As := [.ref (E.2.2 0), .int (xs (n + 1)), .int (xs (n + 2)), .int (xs (n + 3)), .ref (E.2.2 28)]) K hD cw_unlike ml_RL_318 hW rfl rfl (by decide) (Nat.le_of_ble_eq_true rfl) (Nat.le_of_ble_eq_true rfl) h1 h2 dL_law_2786 ?_
  refine z_istore5 (pc := 2789) K.z dL_law_2789 rfl (by decide) ?_
  refine z_aload2 (pc := 2791) K.z dL_law_2791 ?_
  refine z_ar (pc := 2792) 1 K hn dL_law_2792 dL_law_2793 dL_law_2795 dL_law_2796 dL_law_2797 (by decide) (by decide) ?_
  refine z_ar (pc := 2798) 2 K hn dL_law_2798 dL_law_2799 dL_law_2801 dL_law_2802 dL_law_2803 (by decide) (by decide) ?_
  refine z_ar (pc := 2804) 3 K hn dL_law_2804 dL_law_2805 dL_law_2807 dL_law_2808 dL_law_2809 (by decide) (by decide) ?_
  refine z_lM (pc := 2810) (As := [.int (xs (n + 1)), .int (xs (n + 2)), .int (xs (n + 3))]) K hD ca_yX4_unlike ml_RL_320 rfl (t_X4_unlike _ K.q.nt hD.2.1 μ (xs (n + 1)) (xs (n + 2)) (xs (n + 3)) (v, μ1) hm) rfl rfl (by decide) (Nat.le_of_ble_eq_true rfl) (Nat.le_of_ble_eq_true rfl) h1 h2 dL_law_2810 ?_
  exact z_tL (pc := 2813) K hD hR hk hv h1 h2 dL_law_2813 dL_law_2815 dL_law_2816 dL_law_2819 dL_law_2821 dL_law_2826 dL_law_2828 dL_law_2831 dL_law_2832 dL_law_2833 dL_law_2834 dL_law_2836 dL_law_2837 dL_law_2842 (by decide) kk
theorem cs_32 {M : MT} {E : Ev} {b Ln : Nat} {xs : Nat → Int32} {base kc ks n : Nat} {Q : State → Prop} {am : Nat → Nat} {σ μ : St} {I : Im} (K : OKl M E b Ln xs base) (hD : DJ E am I base) (h : Rl (JI I) σ μ) (hn : n + 8 ≤ Ln) (h1 : kc + 20 ≤ 603072) (h2 : ks + 1300 ≤ 7211114) (kk : Kn M E am b base n (kc + 20) (ks + 1300) Q) : VZ M (bA base) 8 kc ks Q (Wl E am σ I μ) 2845 (LL b E am n) [] := by
  obtain ⟨k, σ', μ1, v, hW, hm, hk, hv, hR⟩ := lw_ones M.2.1 K.q.nt hD.1.O (JI I) σ μ (xs (n + 1)) (xs (n + 2)) (xs (n + 3)) h
  refine z_aload1 (pc := 2845) K.z dL_law_2845 ?_
  refine z_ar (pc := 2846) 1 K hn dL_law_2846 dL_law_2847 dL_law_2849 dL_law_2850 dL_law_2851 (by decide) (by decide) ?_
  refine z_ar (pc := 2852) 2 K hn dL_law_2852 dL_law_2853 dL_law_2855 dL_law_2856 dL_law_2857 (by decide) (by decide) ?_
  refine z_ar (pc := 2858) 3 K hn dL_law_2858 dL_law_2859 dL_law_2861 dL_law_2862 dL_law_2863 (by decide) (by decide) ?_
  refine z_aload3 (pc := 2864) K.z dL_law_2864 ?_
  refine z_lW (pc := 2865) (As := [.ref (E.2.2 0), .int (xs (n + 1)), .int (xs (n + 2)), .int (xs (n + 3)), .ref (E.2.2 28)]) K hD cw_ones ml_RL_321 hW rfl rfl (by decide) (Nat.le_of_ble_eq_true rfl) (Nat.le_of_ble_eq_true rfl) h1 h2 dL_law_2865 ?_
  refine z_istore5 (pc := 2868) K.z dL_law_2868 rfl (by decide) ?_
  refine z_aload2 (pc := 2870) K.z dL_law_2870 ?_
  refine z_ar (pc := 2871) 1 K hn dL_law_2871 dL_law_2872 dL_law_2874 dL_law_2875 dL_law_2876 (by decide) (by decide) ?_
  refine z_ar (pc := 2877) 2 K hn dL_law_2877 dL_law_2878 dL_law_2880 dL_law_2881 dL_law_2882 (by decide) (by decide) ?_
  refine z_ar (pc := 2883) 3 K hn dL_law_2883 dL_law_2884 dL_law_2886 dL_law_2887 dL_law_2888 (by decide) (by decide) ?_
  refine z_lM (pc := 2889) (As := [.int (xs (n + 1)), .int (xs (n + 2)), .int (xs (n + 3))]) K hD ca_yX4_ones ml_RL_323 rfl (t_X4_ones _ K.q.nt hD.2.1 μ (xs (n + 1)) (xs (n + 2)) (xs (n + 3)) (v, μ1) hm) rfl rfl (by decide) (Nat.le_of_ble_eq_true rfl) (Nat.le_of_ble_eq_true rfl) h1 h2 dL_law_2889 ?_
  exact z_tI (pc := 2892) K hD hR hk hv h1 h2 dL_law_2892 dL_law_2894 dL_law_2895 dL_law_2898 dL_law_2900 dL_law_2905 dL_law_2907 dL_law_2910 dL_law_2911 dL_law_2912 dL_law_2913 dL_law_2915 dL_law_2916 dL_law_2917 dL_law_2922 (by decide) kk
theorem cs_33 {M : MT} {E : Ev} {b Ln : Nat} {xs : Nat → Int32} {base kc ks n : Nat} {Q : State → Prop} {am : Nat → Nat} {σ μ : St} {I : Im} (K : OKl M E b Ln xs base) (hD : DJ E am I base) (h : Rl (JI I) σ μ) (hn : n + 8 ≤ Ln) (h1 : kc + 20 ≤ 603072) (h2 : ks + 1300 ≤ 7211114) (kk : Kn M E am b base n (kc + 20) (ks + 1300) Q) : VZ M (bA base) 8 kc ks Q (Wl E am σ I μ) 2925 (LL b E am n) [] := by
  obtain ⟨k, σ', μ1, v, hW, hm, hk, hv, hR⟩ := lw_where M.2.1 K.q.nt hD.1.O (JI I) σ μ (xs (n + 1)) (xs (n + 2)) (lgv (xs (n + 3)) (xs (n + 4))) h
  refine z_aload1 (pc := 2925) K.z dL_law_2925 ?_
  refine z_ar (pc := 2926) 1 K hn dL_law_2926 dL_law_2927 dL_law_2929 dL_law_2930 dL_law_2931 (by decide) (by decide) ?_
  refine z_ar (pc := 2932) 2 K hn dL_law_2932 dL_law_2933 dL_law_2935 dL_law_2936 dL_law_2937 (by decide) (by decide) ?_
  refine z_ar (pc := 2938) 3 K hn dL_law_2938 dL_law_2939 dL_law_2941 dL_law_2942 dL_law_2943 (by decide) (by decide) ?_
  refine z_hi (pc := 2944) K dL_law_2944 dL_law_2945 dL_law_2947 ?_
  refine z_ar (pc := 2948) 4 K hn dL_law_2948 dL_law_2949 dL_law_2951 dL_law_2952 dL_law_2953 (by decide) (by decide) ?_
  refine z_lo (pc := 2954) K dL_law_2954 dL_law_2955 dL_law_2958 dL_law_2959 ?_
  refine z_aload3 (pc := 2960) K.z dL_law_2960 ?_
  refine z_lW (pc := 2961) (As := [.ref (E.2.2 0), .int (xs (n + 1)), .int (xs (n + 2)), .long (lgv (xs (n + 3)) (xs (n + 4))), .ref (E.2.2 28)]) K hD cw_where ml_RL_324 hW rfl rfl (by decide) (Nat.le_of_ble_eq_true rfl) (Nat.le_of_ble_eq_true rfl) h1 h2 dL_law_2961 ?_
  refine z_istore5 (pc := 2964) K.z dL_law_2964 rfl (by decide) ?_
  refine z_aload2 (pc := 2966) K.z dL_law_2966 ?_
  refine z_ar (pc := 2967) 1 K hn dL_law_2967 dL_law_2968 dL_law_2970 dL_law_2971 dL_law_2972 (by decide) (by decide) ?_
  refine z_ar (pc := 2973) 2 K hn dL_law_2973 dL_law_2974 dL_law_2976 dL_law_2977 dL_law_2978 (by decide) (by decide) ?_
  refine z_ar (pc := 2979) 3 K hn dL_law_2979 dL_law_2980 dL_law_2982 dL_law_2983 dL_law_2984 (by decide) (by decide) ?_
  refine z_hi (pc := 2985) K dL_law_2985 dL_law_2986 dL_law_2988 ?_
  refine z_ar (pc := 2989) 4 K hn dL_law_2989 dL_law_2990 dL_law_2992 dL_law_2993 dL_law_2994 (by decide) (by decide) ?_
  refine z_lo (pc := 2995) K dL_law_2995 dL_law_2996 dL_law_2999 dL_law_3000 ?_
  refine z_lM (pc := 3001) (As := [.int (xs (n + 1)), .int (xs (n + 2)), .long (lgv (xs (n + 3)) (xs (n + 4)))]) K hD ca_yX4_where ml_RL_326 rfl (t_X4_where _ K.q.nt hD.2.1 μ (xs (n + 1)) (xs (n + 2)) (lgv (xs (n + 3)) (xs (n + 4))) (v, μ1) hm) rfl rfl (by decide) (Nat.le_of_ble_eq_true rfl) (Nat.le_of_ble_eq_true rfl) h1 h2 dL_law_3001 ?_
  exact z_tI (pc := 3004) K hD hR hk hv h1 h2 dL_law_3004 dL_law_3006 dL_law_3007 dL_law_3010 dL_law_3012 dL_law_3017 dL_law_3019 dL_law_3022 dL_law_3023 dL_law_3024 dL_law_3025 dL_law_3027 dL_law_3028 dL_law_3029 dL_law_3034 (by decide) kk
theorem cs_34 {M : MT} {E : Ev} {b Ln : Nat} {xs : Nat → Int32} {base kc ks n : Nat} {Q : State → Prop} {am : Nat → Nat} {σ μ : St} {I : Im} (K : OKl M E b Ln xs base) (hD : DJ E am I base) (h : Rl (JI I) σ μ) (hn : n + 8 ≤ Ln) (h1 : kc + 20 ≤ 603072) (h2 : ks + 1300 ≤ 7211114) (kk : Kn M E am b base n (kc + 20) (ks + 1300) Q) : VZ M (bA base) 8 kc ks Q (Wl E am σ I μ) 3037 (LL b E am n) [] := by
  obtain ⟨k, σ', μ1, v, hW, hm, hk, hv, hR⟩ := lw_dot M.2.1 K.q.nt hD.1.O (JI I) σ μ (xs (n + 1)) (xs (n + 2)) (xs (n + 3)) h
  refine z_aload1 (pc := 3037) K.z dL_law_3037 ?_
  refine z_ar (pc := 3038) 1 K hn dL_law_3038 dL_law_3039 dL_law_3041 dL_law_3042 dL_law_3043 (by decide) (by decide) ?_
  refine z_ar (pc := 3044) 2 K hn dL_law_3044 dL_law_3045 dL_law_3047 dL_law_3048 dL_law_3049 (by decide) (by decide) ?_
  refine z_ar (pc := 3050) 3 K hn dL_law_3050 dL_law_3051 dL_law_3053 dL_law_3054 dL_law_3055 (by decide) (by decide) ?_
  refine z_aload3 (pc := 3056) K.z dL_law_3056 ?_
  refine z_lW (pc := 3057) (As := [.ref (E.2.2 0), .int (xs (n + 1)), .int (xs (n + 2)), .int (xs (n + 3)), .ref (E.2.2 28)]) K hD cw_dot ml_RL_327 hW rfl rfl (by decide) (Nat.le_of_ble_eq_true rfl) (Nat.le_of_ble_eq_true rfl) h1 h2 dL_law_3057 ?_
  refine z_istore5 (pc := 3060) K.z dL_law_3060 rfl (by decide) ?_
  refine z_aload2 (pc := 3062) K.z dL_law_3062 ?_
  refine z_ar (pc := 3063) 1 K hn dL_law_3063 dL_law_3064 dL_law_3066 dL_law_3067 dL_law_3068 (by decide) (by decide) ?_
  refine z_ar (pc := 3069) 2 K hn dL_law_3069 dL_law_3070 dL_law_3072 dL_law_3073 dL_law_3074 (by decide) (by decide) ?_
  refine z_ar (pc := 3075) 3 K hn dL_law_3075 dL_law_3076 dL_law_3078 dL_law_3079 dL_law_3080 (by decide) (by decide) ?_
  refine z_lM (pc := 3081) (As := [.int (xs (n + 1)), .int (xs (n + 2)), .int (xs (n + 3))]) K hD ca_yX4_dot ml_RL_329 rfl (t_X4_dot _ K.q.nt hD.2.1 μ (xs (n + 1)) (xs (n + 2)) (xs (n + 3)) (v, μ1) hm) rfl rfl (by decide) (Nat.le_of_ble_eq_true rfl) (Nat.le_of_ble_eq_true rfl) h1 h2 dL_law_3081 ?_
  exact z_tL (pc := 3084) K hD hR hk hv h1 h2 dL_law_3084 dL_law_3086 dL_law_3087 dL_law_3090 dL_law_3092 dL_law_3097 dL_law_3099 dL_law_3102 dL_law_3103 dL_law_3104 dL_law_3105 dL_law_3107 dL_law_3108 dL_law_3113 (by decide) kk
theorem cs_35 {M : MT} {E : Ev} {b Ln : Nat} {xs : Nat → Int32} {base kc ks n : Nat} {Q : State → Prop} {am : Nat → Nat} {σ μ : St} {I : Im} (K : OKl M E b Ln xs base) (hD : DJ E am I base) (h : Rl (JI I) σ μ) (hn : n + 8 ≤ Ln) (h1 : kc + 20 ≤ 603072) (h2 : ks + 1300 ≤ 7211114) (kk : Kn M E am b base n (kc + 20) (ks + 1300) Q) : VZ M (bA base) 8 kc ks Q (Wl E am σ I μ) 3116 (LL b E am n) [] := by
  obtain ⟨k, σ', μ1, v, hW, hm, hk, hv, hR⟩ := lw_steps M.2.1 K.q.nt hD.1.O (JI I) σ μ (xs (n + 1)) (xs (n + 2)) h
  refine z_aload1 (pc := 3116) K.z dL_law_3116 ?_
  refine z_ar (pc := 3117) 1 K hn dL_law_3117 dL_law_3118 dL_law_3120 dL_law_3121 dL_law_3122 (by decide) (by decide) ?_
  refine z_ar (pc := 3123) 2 K hn dL_law_3123 dL_law_3124 dL_law_3126 dL_law_3127 dL_law_3128 (by decide) (by decide) ?_
  refine z_aload3 (pc := 3129) K.z dL_law_3129 ?_
  refine z_lW (pc := 3130) (As := [.ref (E.2.2 0), .int (xs (n + 1)), .int (xs (n + 2)), .ref (E.2.2 28)]) K hD cw_steps ml_RL_330 hW rfl rfl (by decide) (Nat.le_of_ble_eq_true rfl) (Nat.le_of_ble_eq_true rfl) h1 h2 dL_law_3130 ?_
  refine z_istore5 (pc := 3133) K.z dL_law_3133 rfl (by decide) ?_
  refine z_aload2 (pc := 3135) K.z dL_law_3135 ?_
  refine z_ar (pc := 3136) 1 K hn dL_law_3136 dL_law_3137 dL_law_3139 dL_law_3140 dL_law_3141 (by decide) (by decide) ?_
  refine z_ar (pc := 3142) 2 K hn dL_law_3142 dL_law_3143 dL_law_3145 dL_law_3146 dL_law_3147 (by decide) (by decide) ?_
  refine z_lM (pc := 3148) (As := [.int (xs (n + 1)), .int (xs (n + 2))]) K hD ca_yX4_steps ml_RL_332 rfl (t_X4_steps _ K.q.nt hD.2.1 μ (xs (n + 1)) (xs (n + 2)) (v, μ1) hm) rfl rfl (by decide) (Nat.le_of_ble_eq_true rfl) (Nat.le_of_ble_eq_true rfl) h1 h2 dL_law_3148 ?_
  exact z_tL (pc := 3151) K hD hR hk hv h1 h2 dL_law_3151 dL_law_3153 dL_law_3154 dL_law_3157 dL_law_3159 dL_law_3164 dL_law_3166 dL_law_3169 dL_law_3170 dL_law_3171 dL_law_3172 dL_law_3174 dL_law_3175 dL_law_3180 (by decide) kk
theorem cs_36 {M : MT} {E : Ev} {b Ln : Nat} {xs : Nat → Int32} {base kc ks n : Nat} {Q : State → Prop} {am : Nat → Nat} {σ μ : St} {I : Im} (K : OKl M E b Ln xs base) (hD : DJ E am I base) (h : Rl (JI I) σ μ) (hn : n + 8 ≤ Ln) (h1 : kc + 20 ≤ 603072) (h2 : ks + 1300 ≤ 7211114) (kk : Kn M E am b base n (kc + 20) (ks + 1300) Q) : VZ M (bA base) 8 kc ks Q (Wl E am σ I μ) 3183 (LL b E am n) [] := by
  obtain ⟨k, σ', μ1, v, hW, hm, hk, hv, hR⟩ := lw_upTo M.2.1 K.q.nt hD.1.O (JI I) σ μ (xs (n + 1)) (xs (n + 2)) (xs (n + 3)) h
  refine z_aload1 (pc := 3183) K.z dL_law_3183 ?_
  refine z_ar (pc := 3184) 1 K hn dL_law_3184 dL_law_3185 dL_law_3187 dL_law_3188 dL_law_3189 (by decide) (by decide) ?_
  refine z_ar (pc := 3190) 2 K hn dL_law_3190 dL_law_3191 dL_law_3193 dL_law_3194 dL_law_3195 (by decide) (by decide) ?_
  refine z_ar (pc := 3196) 3 K hn dL_law_3196 dL_law_3197 dL_law_3199 dL_law_3200 dL_law_3201 (by decide) (by decide) ?_
  refine z_aload3 (pc := 3202) K.z dL_law_3202 ?_
  refine z_lW (pc := 3203) (As := [.ref (E.2.2 0), .int (xs (n + 1)), .int (xs (n + 2)), .int (xs (n + 3)), .ref (E.2.2 28)]) K hD cw_upTo ml_RL_333 hW rfl rfl (by decide) (Nat.le_of_ble_eq_true rfl) (Nat.le_of_ble_eq_true rfl) h1 h2 dL_law_3203 ?_
  refine z_istore5 (pc := 3206) K.z dL_law_3206 rfl (by decide) ?_
  refine z_aload2 (pc := 3208) K.z dL_law_3208 ?_
  refine z_ar (pc := 3209) 1 K hn dL_law_3209 dL_law_3210 dL_law_3212 dL_law_3213 dL_law_3214 (by decide) (by decide) ?_
  refine z_ar (pc := 3215) 2 K hn dL_law_3215 dL_law_3216 dL_law_3218 dL_law_3219 dL_law_3220 (by decide) (by decide) ?_
  refine z_ar (pc := 3221) 3 K hn dL_law_3221 dL_law_3222 dL_law_3224 dL_law_3225 dL_law_3226 (by decide) (by decide) ?_
  refine z_lM (pc := 3227) (As := [.int (xs (n + 1)), .int (xs (n + 2)), .int (xs (n + 3))]) K hD ca_yX4_upTo ml_RL_335 rfl (t_X4_upTo _ K.q.nt hD.2.1 μ (xs (n + 1)) (xs (n + 2)) (xs (n + 3)) (v, μ1) hm) rfl rfl (by decide) (Nat.le_of_ble_eq_true rfl) (Nat.le_of_ble_eq_true rfl) h1 h2 dL_law_3227 ?_
  exact z_tL (pc := 3230) K hD hR hk hv h1 h2 dL_law_3230 dL_law_3232 dL_law_3233 dL_law_3236 dL_law_3238 dL_law_3243 dL_law_3245 dL_law_3248 dL_law_3249 dL_law_3250 dL_law_3251 dL_law_3253 dL_law_3254 dL_law_3259 (by decide) kk
theorem cs_37 {M : MT} {E : Ev} {b Ln : Nat} {xs : Nat → Int32} {base kc ks n : Nat} {Q : State → Prop} {am : Nat → Nat} {σ μ : St} {I : Im} (K : OKl M E b Ln xs base) (hD : DJ E am I base) (h : Rl (JI I) σ μ) (hn : n + 8 ≤ Ln) (h1 : kc + 20 ≤ 603072) (h2 : ks + 1300 ≤ 7211114) (kk : Kn M E am b base n (kc + 20) (ks + 1300) Q) : VZ M (bA base) 8 kc ks Q (Wl E am σ I μ) 3262 (LL b E am n) [] := by
  obtain ⟨k, σ', μ1, v, hW, hm, hk, hv, hR⟩ := lw_fold M.2.1 K.q.nt hD.1.O (JI I) σ μ (xs (n + 1)) (xs (n + 2)) (xs (n + 3)) h
  refine z_aload1 (pc := 3262) K.z dL_law_3262 ?_
  refine z_ar (pc := 3263) 1 K hn dL_law_3263 dL_law_3264 dL_law_3266 dL_law_3267 dL_law_3268 (by decide) (by decide) ?_
  refine z_ar (pc := 3269) 2 K hn dL_law_3269 dL_law_3270 dL_law_3272 dL_law_3273 dL_law_3274 (by decide) (by decide) ?_
  refine z_ar (pc := 3275) 3 K hn dL_law_3275 dL_law_3276 dL_law_3278 dL_law_3279 dL_law_3280 (by decide) (by decide) ?_
  refine z_aload3 (pc := 3281) K.z dL_law_3281 ?_
  refine z_lW (pc := 3282) (As := [.ref (E.2.2 0), .int (xs (n + 1)), .int (xs (n + 2)), .int (xs (n + 3)), .ref (E.2.2 28)]) K hD cw_fold ml_RL_336 hW rfl rfl (by decide) (Nat.le_of_ble_eq_true rfl) (Nat.le_of_ble_eq_true rfl) h1 h2 dL_law_3282 ?_
  refine z_istore5 (pc := 3285) K.z dL_law_3285 rfl (by decide) ?_
  refine z_aload2 (pc := 3287) K.z dL_law_3287 ?_
  refine z_ar (pc := 3288) 1 K hn dL_law_3288 dL_law_3289 dL_law_3291 dL_law_3292 dL_law_3293 (by decide) (by decide) ?_
  refine z_ar (pc := 3294) 2 K hn dL_law_3294 dL_law_3295 dL_law_3297 dL_law_3298 dL_law_3299 (by decide) (by decide) ?_
  refine z_ar (pc := 3300) 3 K hn dL_law_3300 dL_law_3301 dL_law_3303 dL_law_3304 dL_law_3305 (by decide) (by decide) ?_
  refine z_lM (pc := 3306) (As := [.int (xs (n + 1)), .int (xs (n + 2)), .int (xs (n + 3))]) K hD ca_yX4_fold ml_RL_338 rfl (t_X4_fold _ K.q.nt hD.2.1 μ (xs (n + 1)) (xs (n + 2)) (xs (n + 3)) (v, μ1) hm) rfl rfl (by decide) (Nat.le_of_ble_eq_true rfl) (Nat.le_of_ble_eq_true rfl) h1 h2 dL_law_3306 ?_
  exact z_tL (pc := 3309) K hD hR hk hv h1 h2 dL_law_3309 dL_law_3311 dL_law_3312 dL_law_3315 dL_law_3317 dL_law_3322 dL_law_3324 dL_law_3327 dL_law_3328 dL_law_3329 dL_law_3330 dL_law_3332 dL_law_3333 dL_law_3338 (by decide) kk
theorem cs_38 {M : MT} {E : Ev} {b Ln : Nat} {xs : Nat → Int32} {base kc ks n : Nat} {Q : State → Prop} {am : Nat → Nat} {σ μ : St} {I : Im} (K : OKl M E b Ln xs base) (hD : DJ E am I base) (h : Rl (JI I) σ μ) (hn : n + 8 ≤ Ln) (h1 : kc + 20 ≤ 603072) (h2 : ks + 1300 ≤ 7211114) (kk : Kn M E am b base n (kc + 20) (ks + 1300) Q) : VZ M (bA base) 8 kc ks Q (Wl E am σ I μ) 3341 (LL b E am n) [] := by
  obtain ⟨k, σ', μ1, v, hW, hm, hk, hv, hR⟩ := lw_spread M.2.1 K.q.nt hD.1.O (JI I) σ μ (xs (n + 1)) (xs (n + 2)) h
  refine z_aload1 (pc := 3341) K.z dL_law_3341 ?_
  refine z_ar (pc := 3342) 1 K hn dL_law_3342 dL_law_3343 dL_law_3345 dL_law_3346 dL_law_3347 (by decide) (by decide) ?_
  refine z_ar (pc := 3348) 2 K hn dL_law_3348 dL_law_3349 dL_law_3351 dL_law_3352 dL_law_3353 (by decide) (by decide) ?_
  refine z_aload3 (pc := 3354) K.z dL_law_3354 ?_
  refine z_lW (pc := 3355) (As := [.ref (E.2.2 0), .int (xs (n + 1)), .int (xs (n + 2)), .ref (E.2.2 28)]) K hD cw_spread ml_RL_339 hW rfl rfl (by decide) (Nat.le_of_ble_eq_true rfl) (Nat.le_of_ble_eq_true rfl) h1 h2 dL_law_3355 ?_
  refine z_istore5 (pc := 3358) K.z dL_law_3358 rfl (by decide) ?_
  refine z_aload2 (pc := 3360) K.z dL_law_3360 ?_
  refine z_ar (pc := 3361) 1 K hn dL_law_3361 dL_law_3362 dL_law_3364 dL_law_3365 dL_law_3366 (by decide) (by decide) ?_
  refine z_ar (pc := 3367) 2 K hn dL_law_3367 dL_law_3368 dL_law_3370 dL_law_3371 dL_law_3372 (by decide) (by decide) ?_
  refine z_lM (pc := 3373) (As := [.int (xs (n + 1)), .int (xs (n + 2))]) K hD ca_yX4_spread ml_RL_341 rfl (t_X4_spread _ K.q.nt hD.2.1 μ (xs (n + 1)) (xs (n + 2)) (v, μ1) hm) rfl rfl (by decide) (Nat.le_of_ble_eq_true rfl) (Nat.le_of_ble_eq_true rfl) h1 h2 dL_law_3373 ?_
  exact z_tL (pc := 3376) K hD hR hk hv h1 h2 dL_law_3376 dL_law_3378 dL_law_3379 dL_law_3382 dL_law_3384 dL_law_3389 dL_law_3391 dL_law_3394 dL_law_3395 dL_law_3396 dL_law_3397 dL_law_3399 dL_law_3400 dL_law_3405 (by decide) kk
theorem cs_39 {M : MT} {E : Ev} {b Ln : Nat} {xs : Nat → Int32} {base kc ks n : Nat} {Q : State → Prop} {am : Nat → Nat} {σ μ : St} {I : Im} (K : OKl M E b Ln xs base) (hD : DJ E am I base) (h : Rl (JI I) σ μ) (hn : n + 8 ≤ Ln) (h1 : kc + 20 ≤ 603072) (h2 : ks + 1300 ≤ 7211114) (kk : Kn M E am b base n (kc + 20) (ks + 1300) Q) : VZ M (bA base) 8 kc ks Q (Wl E am σ I μ) 3408 (LL b E am n) [] := by
  obtain ⟨k, σ', μ1, v, hW, hm, hk, hv, hR⟩ := lw_nearest M.2.1 K.q.nt hD.1.O (JI I) σ μ (xs (n + 1)) (xs (n + 2)) (lgv (xs (n + 3)) (xs (n + 4))) h
  refine z_aload1 (pc := 3408) K.z dL_law_3408 ?_
  refine z_ar (pc := 3409) 1 K hn dL_law_3409 dL_law_3410 dL_law_3412 dL_law_3413 dL_law_3414 (by decide) (by decide) ?_
  refine z_ar (pc := 3415) 2 K hn dL_law_3415 dL_law_3416 dL_law_3418 dL_law_3419 dL_law_3420 (by decide) (by decide) ?_
  refine z_ar (pc := 3421) 3 K hn dL_law_3421 dL_law_3422 dL_law_3424 dL_law_3425 dL_law_3426 (by decide) (by decide) ?_
  refine z_hi (pc := 3427) K dL_law_3427 dL_law_3428 dL_law_3430 ?_
  refine z_ar (pc := 3431) 4 K hn dL_law_3431 dL_law_3432 dL_law_3434 dL_law_3435 dL_law_3436 (by decide) (by decide) ?_
  refine z_lo (pc := 3437) K dL_law_3437 dL_law_3438 dL_law_3441 dL_law_3442 ?_
  refine z_aload3 (pc := 3443) K.z dL_law_3443 ?_
  refine z_lW (pc := 3444) (As := [.ref (E.2.2 0), .int (xs (n + 1)), .int (xs (n + 2)), .long (lgv (xs (n + 3)) (xs (n + 4))), .ref (E.2.2 28)]) K hD cw_nearest ml_RL_342 hW rfl rfl (by decide) (Nat.le_of_ble_eq_true rfl) (Nat.le_of_ble_eq_true rfl) h1 h2 dL_law_3444 ?_
  refine z_istore5 (pc := 3447) K.z dL_law_3447 rfl (by decide) ?_
  refine z_aload2 (pc := 3449) K.z dL_law_3449 ?_
  refine z_ar (pc := 3450) 1 K hn dL_law_3450 dL_law_3451 dL_law_3453 dL_law_3454 dL_law_3455 (by decide) (by decide) ?_
  refine z_ar (pc := 3456) 2 K hn dL_law_3456 dL_law_3457 dL_law_3459 dL_law_3460 dL_law_3461 (by decide) (by decide) ?_
  refine z_ar (pc := 3462) 3 K hn dL_law_3462 dL_law_3463 dL_law_3465 dL_law_3466 dL_law_3467 (by decide) (by decide) ?_
  refine z_hi (pc := 3468) K dL_law_3468 dL_law_3469 dL_law_3471 ?_
  refine z_ar (pc := 3472) 4 K hn dL_law_3472 dL_law_3473 dL_law_3475 dL_law_3476 dL_law_3477 (by decide) (by decide) ?_
  refine z_lo (pc := 3478) K dL_law_3478 dL_law_3479 dL_law_3482 dL_law_3483 ?_
  refine z_lM (pc := 3484) (As := [.int (xs (n + 1)), .int (xs (n + 2)), .long (lgv (xs (n + 3)) (xs (n + 4)))]) K hD ca_yX4_nearest ml_RL_344 rfl (t_X4_nearest _ K.q.nt hD.2.1 μ (xs (n + 1)) (xs (n + 2)) (lgv (xs (n + 3)) (xs (n + 4))) (v, μ1) hm) rfl rfl (by decide) (Nat.le_of_ble_eq_true rfl) (Nat.le_of_ble_eq_true rfl) h1 h2 dL_law_3484 ?_
  exact z_tL (pc := 3487) K hD hR hk hv h1 h2 dL_law_3487 dL_law_3489 dL_law_3490 dL_law_3493 dL_law_3495 dL_law_3500 dL_law_3502 dL_law_3505 dL_law_3506 dL_law_3507 dL_law_3508 dL_law_3510 dL_law_3511 dL_law_3516 (by decide) kk
