theorem dL_law_2888 : decode cL_law 2888 = .ok (.i2l, 1) := by decide +kernel
theorem dL_law_2889 : decode cL_law 2889 = .ok (.lcmp, 1) := by decide +kernel
theorem dL_law_2890 : decode cL_law 2890 = .ok (.ifCond .eq 5, 3) := by decide +kernel
theorem dL_law_2893 : decode cL_law 2893 = .ok (.iconst 0, 1) := by decide +kernel
theorem dL_law_2894 : decode cL_law 2894 = .ok (.ireturn, 1) := by decide +kernel
theorem dL_law_2895 : decode cL_law 2895 = .ok (.goto 320, 3) := by decide +kernel
theorem dL_law_2898 : decode cL_law 2898 = .ok (.aload_n 1, 1) := by decide +kernel
theorem dL_law_2899 : decode cL_law 2899 = .ok (.aload_n 0, 1) := by decide +kernel
theorem dL_law_2900 : decode cL_law 2900 = .ok (.iload 5, 2) := by decide +kernel
theorem dL_law_2902 : decode cL_law 2902 = .ok (.iconst 1, 1) := by decide +kernel
theorem dL_law_2903 : decode cL_law 2903 = .ok (.iadd, 1) := by decide +kernel
theorem dL_law_2904 : decode cL_law 2904 = .ok (.iaload, 1) := by decide +kernel
theorem dL_law_2905 : decode cL_law 2905 = .ok (.i2c, 1) := by decide +kernel
theorem dL_law_2906 : decode cL_law 2906 = .ok (.aload_n 3, 1) := by decide +kernel
theorem dL_law_2907 : decode cL_law 2907 = .ok (.invokestatic 324, 3) := by decide +kernel
theorem dL_law_2910 : decode cL_law 2910 = .ok (.istore 6, 2) := by decide +kernel
theorem dL_law_2912 : decode cL_law 2912 = .ok (.aload_n 2, 1) := by decide +kernel
theorem dL_law_2913 : decode cL_law 2913 = .ok (.aload_n 0, 1) := by decide +kernel
theorem dL_law_2914 : decode cL_law 2914 = .ok (.iload 5, 2) := by decide +kernel
theorem dL_law_2916 : decode cL_law 2916 = .ok (.iconst 1, 1) := by decide +kernel
theorem dL_law_2917 : decode cL_law 2917 = .ok (.iadd, 1) := by decide +kernel
theorem dL_law_2918 : decode cL_law 2918 = .ok (.iaload, 1) := by decide +kernel
theorem dL_law_2919 : decode cL_law 2919 = .ok (.i2c, 1) := by decide +kernel
theorem dL_law_2920 : decode cL_law 2920 = .ok (.invokevirtual 327, 3) := by decide +kernel
theorem dL_law_2923 : decode cL_law 2923 = .ok (.istore 7, 2) := by decide +kernel
theorem dL_law_2925 : decode cL_law 2925 = .ok (.aload_n 2, 1) := by decide +kernel
theorem dL_law_2926 : decode cL_law 2926 = .ok (.invokevirtual 180, 3) := by decide +kernel
theorem dL_law_2929 : decode cL_law 2929 = .ok (.iload 6, 2) := by decide +kernel
theorem dL_law_2931 : decode cL_law 2931 = .ok (.if_icmp .eq 5, 3) := by decide +kernel
theorem dL_law_2934 : decode cL_law 2934 = .ok (.iconst 0, 1) := by decide +kernel
theorem dL_law_2935 : decode cL_law 2935 = .ok (.ireturn, 1) := by decide +kernel
theorem dL_law_2936 : decode cL_law 2936 = .ok (.iload 6, 2) := by decide +kernel
theorem dL_law_2938 : decode cL_law 2938 = .ok (.ifCond .ne 15, 3) := by decide +kernel
theorem dL_law_2941 : decode cL_law 2941 = .ok (.aload_n 3, 1) := by decide +kernel
theorem dL_law_2942 : decode cL_law 2942 = .ok (.iconst 0, 1) := by decide +kernel
theorem dL_law_2943 : decode cL_law 2943 = .ok (.laload, 1) := by decide +kernel
theorem dL_law_2944 : decode cL_law 2944 = .ok (.iload 7, 2) := by decide +kernel
theorem dL_law_2946 : decode cL_law 2946 = .ok (.i2l, 1) := by decide +kernel
theorem dL_law_2947 : decode cL_law 2947 = .ok (.lcmp, 1) := by decide +kernel
theorem dL_law_2948 : decode cL_law 2948 = .ok (.ifCond .eq 5, 3) := by decide +kernel
theorem dL_law_2951 : decode cL_law 2951 = .ok (.iconst 0, 1) := by decide +kernel
theorem dL_law_2952 : decode cL_law 2952 = .ok (.ireturn, 1) := by decide +kernel
theorem dL_law_2953 : decode cL_law 2953 = .ok (.goto 262, 3) := by decide +kernel
theorem dL_law_2956 : decode cL_law 2956 = .ok (.aload_n 1, 1) := by decide +kernel
theorem dL_law_2957 : decode cL_law 2957 = .ok (.invokevirtual 328, 3) := by decide +kernel
theorem dL_law_2960 : decode cL_law 2960 = .ok (.aload_n 2, 1) := by decide +kernel
theorem dL_law_2961 : decode cL_law 2961 = .ok (.invokevirtual 331, 3) := by decide +kernel
theorem dL_law_2964 : decode cL_law 2964 = .ok (.if_icmp .eq 251, 3) := by decide +kernel
theorem dL_law_2967 : decode cL_law 2967 = .ok (.iconst 0, 1) := by decide +kernel
theorem dL_law_2968 : decode cL_law 2968 = .ok (.ireturn, 1) := by decide +kernel
theorem dL_law_2969 : decode cL_law 2969 = .ok (.aload_n 1, 1) := by decide +kernel
theorem dL_law_2970 : decode cL_law 2970 = .ok (.aload_n 3, 1) := by decide +kernel
theorem dL_law_2971 : decode cL_law 2971 = .ok (.invokestatic 332, 3) := by decide +kernel
theorem dL_law_2974 : decode cL_law 2974 = .ok (.istore 6, 2) := by decide +kernel
theorem dL_law_2976 : decode cL_law 2976 = .ok (.aload_n 2, 1) := by decide +kernel
theorem dL_law_2977 : decode cL_law 2977 = .ok (.invokevirtual 334, 3) := by decide +kernel
theorem dL_law_2980 : decode cL_law 2980 = .ok (.istore 7, 2) := by decide +kernel
theorem dL_law_2982 : decode cL_law 2982 = .ok (.aload_n 2, 1) := by decide +kernel
theorem dL_law_2983 : decode cL_law 2983 = .ok (.invokevirtual 180, 3) := by decide +kernel
theorem dL_law_2986 : decode cL_law 2986 = .ok (.iload 6, 2) := by decide +kernel
theorem dL_law_2988 : decode cL_law 2988 = .ok (.if_icmp .eq 5, 3) := by decide +kernel
theorem dL_law_2991 : decode cL_law 2991 = .ok (.iconst 0, 1) := by decide +kernel
theorem dL_law_2992 : decode cL_law 2992 = .ok (.ireturn, 1) := by decide +kernel
theorem dL_law_2993 : decode cL_law 2993 = .ok (.iload 6, 2) := by decide +kernel
theorem dL_law_2995 : decode cL_law 2995 = .ok (.ifCond .ne 15, 3) := by decide +kernel
theorem dL_law_2998 : decode cL_law 2998 = .ok (.aload_n 3, 1) := by decide +kernel
theorem dL_law_2999 : decode cL_law 2999 = .ok (.iconst 0, 1) := by decide +kernel
theorem dL_law_3000 : decode cL_law 3000 = .ok (.laload, 1) := by decide +kernel
theorem dL_law_3001 : decode cL_law 3001 = .ok (.iload 7, 2) := by decide +kernel
theorem dL_law_3003 : decode cL_law 3003 = .ok (.i2l, 1) := by decide +kernel
theorem dL_law_3004 : decode cL_law 3004 = .ok (.lcmp, 1) := by decide +kernel
theorem dL_law_3005 : decode cL_law 3005 = .ok (.ifCond .eq 5, 3) := by decide +kernel
theorem dL_law_3008 : decode cL_law 3008 = .ok (.iconst 0, 1) := by decide +kernel
theorem dL_law_3009 : decode cL_law 3009 = .ok (.ireturn, 1) := by decide +kernel
theorem dL_law_3010 : decode cL_law 3010 = .ok (.goto 205, 3) := by decide +kernel
theorem dL_law_3013 : decode cL_law 3013 = .ok (.aload_n 1, 1) := by decide +kernel
theorem dL_law_3014 : decode cL_law 3014 = .ok (.aload_n 3, 1) := by decide +kernel
theorem dL_law_3015 : decode cL_law 3015 = .ok (.invokestatic 335, 3) := by decide +kernel
theorem dL_law_3018 : decode cL_law 3018 = .ok (.istore 6, 2) := by decide +kernel
theorem dL_law_3020 : decode cL_law 3020 = .ok (.aload_n 2, 1) := by decide +kernel
theorem dL_law_3021 : decode cL_law 3021 = .ok (.invokevirtual 337, 3) := by decide +kernel
theorem dL_law_3024 : decode cL_law 3024 = .ok (.istore 7, 2) := by decide +kernel
theorem dL_law_3026 : decode cL_law 3026 = .ok (.aload_n 2, 1) := by decide +kernel
theorem dL_law_3027 : decode cL_law 3027 = .ok (.invokevirtual 180, 3) := by decide +kernel
theorem dL_law_3030 : decode cL_law 3030 = .ok (.iload 6, 2) := by decide +kernel
theorem dL_law_3032 : decode cL_law 3032 = .ok (.if_icmp .eq 5, 3) := by decide +kernel
theorem dL_law_3035 : decode cL_law 3035 = .ok (.iconst 0, 1) := by decide +kernel
theorem dL_law_3036 : decode cL_law 3036 = .ok (.ireturn, 1) := by decide +kernel
theorem dL_law_3037 : decode cL_law 3037 = .ok (.iload 6, 2) := by decide +kernel
theorem dL_law_3039 : decode cL_law 3039 = .ok (.ifCond .ne 15, 3) := by decide +kernel
theorem dL_law_3042 : decode cL_law 3042 = .ok (.aload_n 3, 1) := by decide +kernel
theorem dL_law_3043 : decode cL_law 3043 = .ok (.iconst 0, 1) := by decide +kernel
theorem dL_law_3044 : decode cL_law 3044 = .ok (.laload, 1) := by decide +kernel
theorem dL_law_3045 : decode cL_law 3045 = .ok (.iload 7, 2) := by decide +kernel
theorem dL_law_3047 : decode cL_law 3047 = .ok (.i2l, 1) := by decide +kernel
theorem dL_law_3048 : decode cL_law 3048 = .ok (.lcmp, 1) := by decide +kernel
theorem dL_law_3049 : decode cL_law 3049 = .ok (.ifCond .eq 5, 3) := by decide +kernel
theorem dL_law_3052 : decode cL_law 3052 = .ok (.iconst 0, 1) := by decide +kernel
theorem dL_law_3053 : decode cL_law 3053 = .ok (.ireturn, 1) := by decide +kernel
theorem dL_law_3054 : decode cL_law 3054 = .ok (.goto 161, 3) := by decide +kernel
theorem dL_law_3057 : decode cL_law 3057 = .ok (.aload_n 1, 1) := by decide +kernel
theorem dL_law_3058 : decode cL_law 3058 = .ok (.aload_n 3, 1) := by decide +kernel
theorem dL_law_3059 : decode cL_law 3059 = .ok (.invokestatic 338, 3) := by decide +kernel
theorem dL_law_3062 : decode cL_law 3062 = .ok (.istore 6, 2) := by decide +kernel
theorem dL_law_3064 : decode cL_law 3064 = .ok (.aload_n 2, 1) := by decide +kernel
theorem dL_law_3065 : decode cL_law 3065 = .ok (.invokevirtual 340, 3) := by decide +kernel
theorem dL_law_3068 : decode cL_law 3068 = .ok (.istore 7, 2) := by decide +kernel
theorem dL_law_3070 : decode cL_law 3070 = .ok (.aload_n 2, 1) := by decide +kernel
theorem dL_law_3071 : decode cL_law 3071 = .ok (.invokevirtual 180, 3) := by decide +kernel
theorem dL_law_3074 : decode cL_law 3074 = .ok (.iload 6, 2) := by decide +kernel
theorem dL_law_3076 : decode cL_law 3076 = .ok (.if_icmp .eq 5, 3) := by decide +kernel
theorem dL_law_3079 : decode cL_law 3079 = .ok (.iconst 0, 1) := by decide +kernel
theorem dL_law_3080 : decode cL_law 3080 = .ok (.ireturn, 1) := by decide +kernel
theorem dL_law_3081 : decode cL_law 3081 = .ok (.iload 6, 2) := by decide +kernel
theorem dL_law_3083 : decode cL_law 3083 = .ok (.ifCond .ne 15, 3) := by decide +kernel
theorem dL_law_3086 : decode cL_law 3086 = .ok (.aload_n 3, 1) := by decide +kernel
theorem dL_law_3087 : decode cL_law 3087 = .ok (.iconst 0, 1) := by decide +kernel
theorem dL_law_3088 : decode cL_law 3088 = .ok (.laload, 1) := by decide +kernel
theorem dL_law_3089 : decode cL_law 3089 = .ok (.iload 7, 2) := by decide +kernel
theorem dL_law_3091 : decode cL_law 3091 = .ok (.i2l, 1) := by decide +kernel
