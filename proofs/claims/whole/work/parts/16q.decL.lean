theorem dL_law_3092 : decode cL_law 3092 = .ok (.lcmp, 1) := by decide +kernel
theorem dL_law_3093 : decode cL_law 3093 = .ok (.ifCond .eq 5, 3) := by decide +kernel
theorem dL_law_3096 : decode cL_law 3096 = .ok (.iconst 0, 1) := by decide +kernel
theorem dL_law_3097 : decode cL_law 3097 = .ok (.ireturn, 1) := by decide +kernel
theorem dL_law_3098 : decode cL_law 3098 = .ok (.goto 117, 3) := by decide +kernel
theorem dL_law_3101 : decode cL_law 3101 = .ok (.aload_n 1, 1) := by decide +kernel
theorem dL_law_3102 : decode cL_law 3102 = .ok (.invokevirtual 341, 3) := by decide +kernel
theorem dL_law_3105 : decode cL_law 3105 = .ok (.aload_n 2, 1) := by decide +kernel
theorem dL_law_3106 : decode cL_law 3106 = .ok (.invokevirtual 344, 3) := by decide +kernel
theorem dL_law_3109 : decode cL_law 3109 = .ok (.if_icmp .eq 106, 3) := by decide +kernel
theorem dL_law_3112 : decode cL_law 3112 = .ok (.iconst 0, 1) := by decide +kernel
theorem dL_law_3113 : decode cL_law 3113 = .ok (.ireturn, 1) := by decide +kernel
theorem dL_law_3114 : decode cL_law 3114 = .ok (.aload_n 1, 1) := by decide +kernel
theorem dL_law_3115 : decode cL_law 3115 = .ok (.aload_n 3, 1) := by decide +kernel
theorem dL_law_3116 : decode cL_law 3116 = .ok (.invokestatic 345, 3) := by decide +kernel
theorem dL_law_3119 : decode cL_law 3119 = .ok (.istore 6, 2) := by decide +kernel
theorem dL_law_3121 : decode cL_law 3121 = .ok (.aload_n 2, 1) := by decide +kernel
theorem dL_law_3122 : decode cL_law 3122 = .ok (.invokevirtual 347, 3) := by decide +kernel
theorem dL_law_3125 : decode cL_law 3125 = .ok (.istore 7, 2) := by decide +kernel
theorem dL_law_3127 : decode cL_law 3127 = .ok (.aload_n 2, 1) := by decide +kernel
theorem dL_law_3128 : decode cL_law 3128 = .ok (.invokevirtual 180, 3) := by decide +kernel
theorem dL_law_3131 : decode cL_law 3131 = .ok (.iload 6, 2) := by decide +kernel
theorem dL_law_3133 : decode cL_law 3133 = .ok (.if_icmp .eq 5, 3) := by decide +kernel
theorem dL_law_3136 : decode cL_law 3136 = .ok (.iconst 0, 1) := by decide +kernel
theorem dL_law_3137 : decode cL_law 3137 = .ok (.ireturn, 1) := by decide +kernel
theorem dL_law_3138 : decode cL_law 3138 = .ok (.iload 6, 2) := by decide +kernel
theorem dL_law_3140 : decode cL_law 3140 = .ok (.ifCond .ne 15, 3) := by decide +kernel
theorem dL_law_3143 : decode cL_law 3143 = .ok (.aload_n 3, 1) := by decide +kernel
theorem dL_law_3144 : decode cL_law 3144 = .ok (.iconst 0, 1) := by decide +kernel
theorem dL_law_3145 : decode cL_law 3145 = .ok (.laload, 1) := by decide +kernel
theorem dL_law_3146 : decode cL_law 3146 = .ok (.iload 7, 2) := by decide +kernel
theorem dL_law_3148 : decode cL_law 3148 = .ok (.i2l, 1) := by decide +kernel
theorem dL_law_3149 : decode cL_law 3149 = .ok (.lcmp, 1) := by decide +kernel
theorem dL_law_3150 : decode cL_law 3150 = .ok (.ifCond .eq 5, 3) := by decide +kernel
theorem dL_law_3153 : decode cL_law 3153 = .ok (.iconst 0, 1) := by decide +kernel
theorem dL_law_3154 : decode cL_law 3154 = .ok (.ireturn, 1) := by decide +kernel
theorem dL_law_3155 : decode cL_law 3155 = .ok (.goto 60, 3) := by decide +kernel
theorem dL_law_3158 : decode cL_law 3158 = .ok (.aload_n 1, 1) := by decide +kernel
theorem dL_law_3159 : decode cL_law 3159 = .ok (.invokevirtual 348, 3) := by decide +kernel
theorem dL_law_3162 : decode cL_law 3162 = .ok (.aload_n 2, 1) := by decide +kernel
theorem dL_law_3163 : decode cL_law 3163 = .ok (.invokevirtual 351, 3) := by decide +kernel
theorem dL_law_3166 : decode cL_law 3166 = .ok (.if_icmp .eq 49, 3) := by decide +kernel
theorem dL_law_3169 : decode cL_law 3169 = .ok (.iconst 0, 1) := by decide +kernel
theorem dL_law_3170 : decode cL_law 3170 = .ok (.ireturn, 1) := by decide +kernel
theorem dL_law_3171 : decode cL_law 3171 = .ok (.aload_n 1, 1) := by decide +kernel
theorem dL_law_3172 : decode cL_law 3172 = .ok (.aload_n 3, 1) := by decide +kernel
theorem dL_law_3173 : decode cL_law 3173 = .ok (.invokestatic 352, 3) := by decide +kernel
theorem dL_law_3176 : decode cL_law 3176 = .ok (.istore 6, 2) := by decide +kernel
theorem dL_law_3178 : decode cL_law 3178 = .ok (.aload_n 2, 1) := by decide +kernel
theorem dL_law_3179 : decode cL_law 3179 = .ok (.invokevirtual 354, 3) := by decide +kernel
theorem dL_law_3182 : decode cL_law 3182 = .ok (.istore 7, 2) := by decide +kernel
theorem dL_law_3184 : decode cL_law 3184 = .ok (.aload_n 2, 1) := by decide +kernel
theorem dL_law_3185 : decode cL_law 3185 = .ok (.invokevirtual 180, 3) := by decide +kernel
theorem dL_law_3188 : decode cL_law 3188 = .ok (.iload 6, 2) := by decide +kernel
theorem dL_law_3190 : decode cL_law 3190 = .ok (.if_icmp .eq 5, 3) := by decide +kernel
theorem dL_law_3193 : decode cL_law 3193 = .ok (.iconst 0, 1) := by decide +kernel
theorem dL_law_3194 : decode cL_law 3194 = .ok (.ireturn, 1) := by decide +kernel
theorem dL_law_3195 : decode cL_law 3195 = .ok (.iload 6, 2) := by decide +kernel
theorem dL_law_3197 : decode cL_law 3197 = .ok (.ifCond .ne 15, 3) := by decide +kernel
theorem dL_law_3200 : decode cL_law 3200 = .ok (.aload_n 3, 1) := by decide +kernel
theorem dL_law_3201 : decode cL_law 3201 = .ok (.iconst 0, 1) := by decide +kernel
theorem dL_law_3202 : decode cL_law 3202 = .ok (.laload, 1) := by decide +kernel
theorem dL_law_3203 : decode cL_law 3203 = .ok (.iload 7, 2) := by decide +kernel
theorem dL_law_3205 : decode cL_law 3205 = .ok (.i2l, 1) := by decide +kernel
theorem dL_law_3206 : decode cL_law 3206 = .ok (.lcmp, 1) := by decide +kernel
theorem dL_law_3207 : decode cL_law 3207 = .ok (.ifCond .eq 5, 3) := by decide +kernel
theorem dL_law_3210 : decode cL_law 3210 = .ok (.iconst 0, 1) := by decide +kernel
theorem dL_law_3211 : decode cL_law 3211 = .ok (.ireturn, 1) := by decide +kernel
theorem dL_law_3212 : decode cL_law 3212 = .ok (.goto 3, 3) := by decide +kernel
theorem dL_law_3215 : decode cL_law 3215 = .ok (.iinc 5 4, 3) := by decide +kernel
theorem dL_law_3218 : decode cL_law 3218 = .ok (.goto (-3190), 3) := by decide +kernel
theorem dL_law_3221 : decode cL_law 3221 = .ok (.iconst 1, 1) := by decide +kernel
theorem dL_law_3222 : decode cL_law 3222 = .ok (.ireturn, 1) := by decide +kernel
