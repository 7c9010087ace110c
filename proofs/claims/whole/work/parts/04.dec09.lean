theorem dL_law_2003 : decode cL_law 2003 = .ok (.aload_n 3, 1) := by decide +kernel
theorem dL_law_2004 : decode cL_law 2004 = .ok (.iconst 0, 1) := by decide +kernel
theorem dL_law_2005 : decode cL_law 2005 = .ok (.laload, 1) := by decide +kernel
theorem dL_law_2006 : decode cL_law 2006 = .ok (.iload 7, 2) := by decide +kernel
theorem dL_law_2008 : decode cL_law 2008 = .ok (.i2l, 1) := by decide +kernel
theorem dL_law_2009 : decode cL_law 2009 = .ok (.lcmp, 1) := by decide +kernel
theorem dL_law_2010 : decode cL_law 2010 = .ok (.ifCond .eq 5, 3) := by decide +kernel
theorem dL_law_2013 : decode cL_law 2013 = .ok (.iconst 0, 1) := by decide +kernel
theorem dL_law_2014 : decode cL_law 2014 = .ok (.ireturn, 1) := by decide +kernel
theorem dL_law_2015 : decode cL_law 2015 = .ok (.goto 220, 3) := by decide +kernel
theorem dL_law_2018 : decode cL_law 2018 = .ok (.aload_n 1, 1) := by decide +kernel
theorem dL_law_2019 : decode cL_law 2019 = .ok (.aload_n 3, 1) := by decide +kernel
theorem dL_law_2020 : decode cL_law 2020 = .ok (.invokestatic 225, 3) := by decide +kernel
theorem dL_law_2023 : decode cL_law 2023 = .ok (.istore 6, 2) := by decide +kernel
theorem dL_law_2025 : decode cL_law 2025 = .ok (.aload_n 2, 1) := by decide +kernel
theorem dL_law_2026 : decode cL_law 2026 = .ok (.invokevirtual 227, 3) := by decide +kernel
theorem dL_law_2029 : decode cL_law 2029 = .ok (.istore 7, 2) := by decide +kernel
theorem dL_law_2031 : decode cL_law 2031 = .ok (.aload_n 2, 1) := by decide +kernel
theorem dL_law_2032 : decode cL_law 2032 = .ok (.invokevirtual 133, 3) := by decide +kernel
theorem dL_law_2035 : decode cL_law 2035 = .ok (.iload 6, 2) := by decide +kernel
theorem dL_law_2037 : decode cL_law 2037 = .ok (.if_icmp .eq 5, 3) := by decide +kernel
theorem dL_law_2040 : decode cL_law 2040 = .ok (.iconst 0, 1) := by decide +kernel
theorem dL_law_2041 : decode cL_law 2041 = .ok (.ireturn, 1) := by decide +kernel
theorem dL_law_2042 : decode cL_law 2042 = .ok (.iload 6, 2) := by decide +kernel
theorem dL_law_2044 : decode cL_law 2044 = .ok (.ifCond .ne 15, 3) := by decide +kernel
theorem dL_law_2047 : decode cL_law 2047 = .ok (.aload_n 3, 1) := by decide +kernel
theorem dL_law_2048 : decode cL_law 2048 = .ok (.iconst 0, 1) := by decide +kernel
theorem dL_law_2049 : decode cL_law 2049 = .ok (.laload, 1) := by decide +kernel
theorem dL_law_2050 : decode cL_law 2050 = .ok (.iload 7, 2) := by decide +kernel
theorem dL_law_2052 : decode cL_law 2052 = .ok (.i2l, 1) := by decide +kernel
theorem dL_law_2053 : decode cL_law 2053 = .ok (.lcmp, 1) := by decide +kernel
theorem dL_law_2054 : decode cL_law 2054 = .ok (.ifCond .eq 5, 3) := by decide +kernel
theorem dL_law_2057 : decode cL_law 2057 = .ok (.iconst 0, 1) := by decide +kernel
theorem dL_law_2058 : decode cL_law 2058 = .ok (.ireturn, 1) := by decide +kernel
theorem dL_law_2059 : decode cL_law 2059 = .ok (.goto 176, 3) := by decide +kernel
theorem dL_law_2062 : decode cL_law 2062 = .ok (.aload_n 1, 1) := by decide +kernel
theorem dL_law_2063 : decode cL_law 2063 = .ok (.aload_n 0, 1) := by decide +kernel
theorem dL_law_2064 : decode cL_law 2064 = .ok (.iload 5, 2) := by decide +kernel
theorem dL_law_2066 : decode cL_law 2066 = .ok (.iconst 1, 1) := by decide +kernel
theorem dL_law_2067 : decode cL_law 2067 = .ok (.iadd, 1) := by decide +kernel
theorem dL_law_2068 : decode cL_law 2068 = .ok (.iaload, 1) := by decide +kernel
theorem dL_law_2069 : decode cL_law 2069 = .ok (.ifCond .eq 7, 3) := by decide +kernel
theorem dL_law_2072 : decode cL_law 2072 = .ok (.iconst 1, 1) := by decide +kernel
theorem dL_law_2073 : decode cL_law 2073 = .ok (.goto 4, 3) := by decide +kernel
theorem dL_law_2076 : decode cL_law 2076 = .ok (.iconst 0, 1) := by decide +kernel
theorem dL_law_2077 : decode cL_law 2077 = .ok (.aload_n 3, 1) := by decide +kernel
theorem dL_law_2078 : decode cL_law 2078 = .ok (.invokestatic 228, 3) := by decide +kernel
theorem dL_law_2081 : decode cL_law 2081 = .ok (.istore 6, 2) := by decide +kernel
theorem dL_law_2083 : decode cL_law 2083 = .ok (.aload_n 2, 1) := by decide +kernel
theorem dL_law_2084 : decode cL_law 2084 = .ok (.aload_n 0, 1) := by decide +kernel
theorem dL_law_2085 : decode cL_law 2085 = .ok (.iload 5, 2) := by decide +kernel
theorem dL_law_2087 : decode cL_law 2087 = .ok (.iconst 1, 1) := by decide +kernel
theorem dL_law_2088 : decode cL_law 2088 = .ok (.iadd, 1) := by decide +kernel
theorem dL_law_2089 : decode cL_law 2089 = .ok (.iaload, 1) := by decide +kernel
theorem dL_law_2090 : decode cL_law 2090 = .ok (.ifCond .eq 7, 3) := by decide +kernel
theorem dL_law_2093 : decode cL_law 2093 = .ok (.iconst 1, 1) := by decide +kernel
theorem dL_law_2094 : decode cL_law 2094 = .ok (.goto 4, 3) := by decide +kernel
theorem dL_law_2097 : decode cL_law 2097 = .ok (.iconst 0, 1) := by decide +kernel
theorem dL_law_2098 : decode cL_law 2098 = .ok (.invokevirtual 231, 3) := by decide +kernel
theorem dL_law_2101 : decode cL_law 2101 = .ok (.istore 7, 2) := by decide +kernel
theorem dL_law_2103 : decode cL_law 2103 = .ok (.aload_n 2, 1) := by decide +kernel
theorem dL_law_2104 : decode cL_law 2104 = .ok (.invokevirtual 133, 3) := by decide +kernel
theorem dL_law_2107 : decode cL_law 2107 = .ok (.iload 6, 2) := by decide +kernel
theorem dL_law_2109 : decode cL_law 2109 = .ok (.if_icmp .eq 5, 3) := by decide +kernel
theorem dL_law_2112 : decode cL_law 2112 = .ok (.iconst 0, 1) := by decide +kernel
theorem dL_law_2113 : decode cL_law 2113 = .ok (.ireturn, 1) := by decide +kernel
theorem dL_law_2114 : decode cL_law 2114 = .ok (.iload 6, 2) := by decide +kernel
theorem dL_law_2116 : decode cL_law 2116 = .ok (.ifCond .ne 15, 3) := by decide +kernel
theorem dL_law_2119 : decode cL_law 2119 = .ok (.aload_n 3, 1) := by decide +kernel
theorem dL_law_2120 : decode cL_law 2120 = .ok (.iconst 0, 1) := by decide +kernel
theorem dL_law_2121 : decode cL_law 2121 = .ok (.laload, 1) := by decide +kernel
theorem dL_law_2122 : decode cL_law 2122 = .ok (.iload 7, 2) := by decide +kernel
theorem dL_law_2124 : decode cL_law 2124 = .ok (.i2l, 1) := by decide +kernel
theorem dL_law_2125 : decode cL_law 2125 = .ok (.lcmp, 1) := by decide +kernel
theorem dL_law_2126 : decode cL_law 2126 = .ok (.ifCond .eq 5, 3) := by decide +kernel
theorem dL_law_2129 : decode cL_law 2129 = .ok (.iconst 0, 1) := by decide +kernel
theorem dL_law_2130 : decode cL_law 2130 = .ok (.ireturn, 1) := by decide +kernel
theorem dL_law_2131 : decode cL_law 2131 = .ok (.goto 104, 3) := by decide +kernel
theorem dL_law_2134 : decode cL_law 2134 = .ok (.aload_n 1, 1) := by decide +kernel
theorem dL_law_2135 : decode cL_law 2135 = .ok (.aload_n 3, 1) := by decide +kernel
theorem dL_law_2136 : decode cL_law 2136 = .ok (.invokestatic 232, 3) := by decide +kernel
theorem dL_law_2139 : decode cL_law 2139 = .ok (.istore 6, 2) := by decide +kernel
theorem dL_law_2141 : decode cL_law 2141 = .ok (.aload_n 2, 1) := by decide +kernel
theorem dL_law_2142 : decode cL_law 2142 = .ok (.invokevirtual 234, 3) := by decide +kernel
theorem dL_law_2145 : decode cL_law 2145 = .ok (.istore 7, 2) := by decide +kernel
theorem dL_law_2147 : decode cL_law 2147 = .ok (.aload_n 2, 1) := by decide +kernel
theorem dL_law_2148 : decode cL_law 2148 = .ok (.invokevirtual 133, 3) := by decide +kernel
theorem dL_law_2151 : decode cL_law 2151 = .ok (.iload 6, 2) := by decide +kernel
theorem dL_law_2153 : decode cL_law 2153 = .ok (.if_icmp .eq 5, 3) := by decide +kernel
theorem dL_law_2156 : decode cL_law 2156 = .ok (.iconst 0, 1) := by decide +kernel
theorem dL_law_2157 : decode cL_law 2157 = .ok (.ireturn, 1) := by decide +kernel
theorem dL_law_2158 : decode cL_law 2158 = .ok (.iload 6, 2) := by decide +kernel
theorem dL_law_2160 : decode cL_law 2160 = .ok (.ifCond .ne 15, 3) := by decide +kernel
theorem dL_law_2163 : decode cL_law 2163 = .ok (.aload_n 3, 1) := by decide +kernel
theorem dL_law_2164 : decode cL_law 2164 = .ok (.iconst 0, 1) := by decide +kernel
theorem dL_law_2165 : decode cL_law 2165 = .ok (.laload, 1) := by decide +kernel
theorem dL_law_2166 : decode cL_law 2166 = .ok (.iload 7, 2) := by decide +kernel
theorem dL_law_2168 : decode cL_law 2168 = .ok (.i2l, 1) := by decide +kernel
theorem dL_law_2169 : decode cL_law 2169 = .ok (.lcmp, 1) := by decide +kernel
theorem dL_law_2170 : decode cL_law 2170 = .ok (.ifCond .eq 5, 3) := by decide +kernel
theorem dL_law_2173 : decode cL_law 2173 = .ok (.iconst 0, 1) := by decide +kernel
theorem dL_law_2174 : decode cL_law 2174 = .ok (.ireturn, 1) := by decide +kernel
theorem dL_law_2175 : decode cL_law 2175 = .ok (.goto 60, 3) := by decide +kernel
theorem dL_law_2178 : decode cL_law 2178 = .ok (.aload_n 1, 1) := by decide +kernel
theorem dL_law_2179 : decode cL_law 2179 = .ok (.invokevirtual 235, 3) := by decide +kernel
theorem dL_law_2182 : decode cL_law 2182 = .ok (.aload_n 2, 1) := by decide +kernel
theorem dL_law_2183 : decode cL_law 2183 = .ok (.invokevirtual 238, 3) := by decide +kernel
theorem dL_law_2186 : decode cL_law 2186 = .ok (.if_icmp .eq 49, 3) := by decide +kernel
theorem dL_law_2189 : decode cL_law 2189 = .ok (.iconst 0, 1) := by decide +kernel
theorem dL_law_2190 : decode cL_law 2190 = .ok (.ireturn, 1) := by decide +kernel
theorem dL_law_2191 : decode cL_law 2191 = .ok (.aload_n 1, 1) := by decide +kernel
theorem dL_law_2192 : decode cL_law 2192 = .ok (.aload_n 3, 1) := by decide +kernel
theorem dL_law_2193 : decode cL_law 2193 = .ok (.invokestatic 239, 3) := by decide +kernel
theorem dL_law_2196 : decode cL_law 2196 = .ok (.istore 6, 2) := by decide +kernel
theorem dL_law_2198 : decode cL_law 2198 = .ok (.aload_n 2, 1) := by decide +kernel
theorem dL_law_2199 : decode cL_law 2199 = .ok (.invokevirtual 241, 3) := by decide +kernel
theorem dL_law_2202 : decode cL_law 2202 = .ok (.istore 7, 2) := by decide +kernel
theorem dL_law_2204 : decode cL_law 2204 = .ok (.aload_n 2, 1) := by decide +kernel
theorem dL_law_2205 : decode cL_law 2205 = .ok (.invokevirtual 133, 3) := by decide +kernel
theorem dL_law_2208 : decode cL_law 2208 = .ok (.iload 6, 2) := by decide +kernel
theorem dL_law_2210 : decode cL_law 2210 = .ok (.if_icmp .eq 5, 3) := by decide +kernel
theorem dL_law_2213 : decode cL_law 2213 = .ok (.iconst 0, 1) := by decide +kernel
theorem dL_law_2214 : decode cL_law 2214 = .ok (.ireturn, 1) := by decide +kernel
theorem dL_law_2215 : decode cL_law 2215 = .ok (.iload 6, 2) := by decide +kernel
theorem dL_law_2217 : decode cL_law 2217 = .ok (.ifCond .ne 15, 3) := by decide +kernel
theorem dL_law_2220 : decode cL_law 2220 = .ok (.aload_n 3, 1) := by decide +kernel
theorem dL_law_2221 : decode cL_law 2221 = .ok (.iconst 0, 1) := by decide +kernel
theorem dL_law_2222 : decode cL_law 2222 = .ok (.laload, 1) := by decide +kernel
theorem dL_law_2223 : decode cL_law 2223 = .ok (.iload 7, 2) := by decide +kernel
theorem dL_law_2225 : decode cL_law 2225 = .ok (.i2l, 1) := by decide +kernel
theorem dL_law_2226 : decode cL_law 2226 = .ok (.lcmp, 1) := by decide +kernel
theorem dL_law_2227 : decode cL_law 2227 = .ok (.ifCond .eq 5, 3) := by decide +kernel
theorem dL_law_2230 : decode cL_law 2230 = .ok (.iconst 0, 1) := by decide +kernel
theorem dL_law_2231 : decode cL_law 2231 = .ok (.ireturn, 1) := by decide +kernel
theorem dL_law_2232 : decode cL_law 2232 = .ok (.goto 3, 3) := by decide +kernel
theorem dL_law_2235 : decode cL_law 2235 = .ok (.iinc 5 6, 3) := by decide +kernel
theorem dL_law_2238 : decode cL_law 2238 = .ok (.goto (-2210), 3) := by decide +kernel
theorem dL_law_2241 : decode cL_law 2241 = .ok (.iconst 1, 1) := by decide +kernel
theorem dL_law_2242 : decode cL_law 2242 = .ok (.ireturn, 1) := by decide +kernel
