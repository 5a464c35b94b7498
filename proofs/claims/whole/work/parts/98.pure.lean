/-! The law's functions: every call answers alike. -/
theorem pure_law : PURE := pure_of op_0 op_1 op_2 op_3 op_4 op_5 op_6 op_7 op_8 op_9 op_10 op_11 op_12 op_13 op_14 op_15 op_16 op_17 op_18 op_19 op_20 op_21 op_22 op_23 op_24 op_25 op_26 op_27 op_28 op_29 inv_0
