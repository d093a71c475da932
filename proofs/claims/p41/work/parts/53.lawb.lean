theorem k1062 : Cond.methodLink RL 110 yX10_order ∈ gt := gt_5_0 (i := 16) rfl rfl
theorem k1063 : Cond.instanceMethod yX10_order ∈ gt := gt_5_0 (i := 17) rfl rfl
theorem k1064 : Cond.selects RX10 yX10_order yX10_order ∈ gt := gt_5_0 (i := 18) rfl rfl
theorem k1065 : Cond.code yX10_order cX10_order 5 (some .int) ∈ gt := gt_5_0 (i := 19) rfl rfl
theorem np_X10_order : yX10_order.cls ≠ "java/lang/invoke/MethodHandle" ∧ yX10_order.cls ≠ "java/lang/invoke/VarHandle" ∧ (parseMethodDescriptor yX10_order.desc).map (fun d => d.parameters.length) = some 4 := ⟨cq_RX10.1, cq_RX10.2, pd_19⟩
theorem k1691 : Cond.methodLink RL 113 yX11_order ∈ gt := gt_7_6 (i := 21) rfl rfl
theorem k1692 : Cond.instanceMethod yX11_order ∈ gt := gt_7_6 (i := 22) rfl rfl
theorem k1693 : Cond.selects RX11 yX11_order yX11_order ∈ gt := gt_7_6 (i := 23) rfl rfl
theorem k1694 : Cond.code yX11_order cX11_order 5 (some .int) ∈ gt := gt_7_7 (i := 0) rfl rfl
theorem np_X11_order : yX11_order.cls ≠ "java/lang/invoke/MethodHandle" ∧ yX11_order.cls ≠ "java/lang/invoke/VarHandle" ∧ (parseMethodDescriptor yX11_order.desc).map (fun d => d.parameters.length) = some 4 := ⟨cq_RX11.1, cq_RX11.2, pd_19⟩
theorem k1070 : Cond.methodLink RL 114 yX10_think ∈ gt := gt_5_1 (i := 0) rfl rfl
theorem k1071 : Cond.instanceMethod yX10_think ∈ gt := gt_5_1 (i := 1) rfl rfl
theorem k1072 : Cond.selects RX10 yX10_think yX10_think ∈ gt := gt_5_1 (i := 2) rfl rfl
theorem k1073 : Cond.code yX10_think cX10_think 7 (some .int) ∈ gt := gt_5_1 (i := 3) rfl rfl
theorem np_X10_think : yX10_think.cls ≠ "java/lang/invoke/MethodHandle" ∧ yX10_think.cls ≠ "java/lang/invoke/VarHandle" ∧ (parseMethodDescriptor yX10_think.desc).map (fun d => d.parameters.length) = some 4 := ⟨cq_RX10.1, cq_RX10.2, pd_28⟩
theorem k1695 : Cond.methodLink RL 118 yX11_think ∈ gt := gt_7_7 (i := 1) rfl rfl
theorem k1696 : Cond.instanceMethod yX11_think ∈ gt := gt_7_7 (i := 2) rfl rfl
theorem k1697 : Cond.selects RX11 yX11_think yX11_think ∈ gt := gt_7_7 (i := 3) rfl rfl
theorem k1698 : Cond.code yX11_think cX11_think 7 (some .int) ∈ gt := gt_7_7 (i := 4) rfl rfl
theorem np_X11_think : yX11_think.cls ≠ "java/lang/invoke/MethodHandle" ∧ yX11_think.cls ≠ "java/lang/invoke/VarHandle" ∧ (parseMethodDescriptor yX11_think.desc).map (fun d => d.parameters.length) = some 4 := ⟨cq_RX11.1, cq_RX11.2, pd_28⟩
theorem k1090 : Cond.methodLink RL 119 yX10_now ∈ gt := gt_5_1 (i := 20) rfl rfl
theorem k1091 : Cond.instanceMethod yX10_now ∈ gt := gt_5_1 (i := 21) rfl rfl
theorem k1092 : Cond.selects RX10 yX10_now yX10_now ∈ gt := gt_5_1 (i := 22) rfl rfl
theorem k1093 : Cond.code yX10_now cX10_now 3 (some .int) ∈ gt := gt_5_1 (i := 23) rfl rfl
theorem np_X10_now : yX10_now.cls ≠ "java/lang/invoke/MethodHandle" ∧ yX10_now.cls ≠ "java/lang/invoke/VarHandle" ∧ (parseMethodDescriptor yX10_now.desc).map (fun d => d.parameters.length) = some 2 := ⟨cq_RX10.1, cq_RX10.2, pd_11⟩
theorem k1710 : Cond.methodLink RL 122 yX11_now ∈ gt := gt_7_7 (i := 16) rfl rfl
theorem k1711 : Cond.instanceMethod yX11_now ∈ gt := gt_7_7 (i := 17) rfl rfl
theorem k1712 : Cond.selects RX11 yX11_now yX11_now ∈ gt := gt_7_7 (i := 18) rfl rfl
theorem k1713 : Cond.code yX11_now cX11_now 11 (some .int) ∈ gt := gt_7_7 (i := 19) rfl rfl
theorem np_X11_now : yX11_now.cls ≠ "java/lang/invoke/MethodHandle" ∧ yX11_now.cls ≠ "java/lang/invoke/VarHandle" ∧ (parseMethodDescriptor yX11_now.desc).map (fun d => d.parameters.length) = some 2 := ⟨cq_RX11.1, cq_RX11.2, pd_11⟩
theorem k1100 : Cond.methodLink RL 123 yX10_years ∈ gt := gt_5_2 (i := 6) rfl rfl
theorem k1101 : Cond.instanceMethod yX10_years ∈ gt := gt_5_2 (i := 7) rfl rfl
theorem k1102 : Cond.selects RX10 yX10_years yX10_years ∈ gt := gt_5_2 (i := 8) rfl rfl
theorem k1103 : Cond.code yX10_years cX10_years 6 (some .long) ∈ gt := gt_5_2 (i := 9) rfl rfl
theorem np_X10_years : yX10_years.cls ≠ "java/lang/invoke/MethodHandle" ∧ yX10_years.cls ≠ "java/lang/invoke/VarHandle" ∧ (parseMethodDescriptor yX10_years.desc).map (fun d => d.parameters.length) = some 5 := ⟨cq_RX10.1, cq_RX10.2, pd_24⟩
theorem k1714 : Cond.methodLink RL 127 yX11_years ∈ gt := gt_7_7 (i := 20) rfl rfl
theorem k1715 : Cond.instanceMethod yX11_years ∈ gt := gt_7_7 (i := 21) rfl rfl
theorem k1716 : Cond.selects RX11 yX11_years yX11_years ∈ gt := gt_7_7 (i := 22) rfl rfl
theorem k1717 : Cond.code yX11_years cX11_years 12 (some .long) ∈ gt := gt_7_7 (i := 23) rfl rfl
theorem np_X11_years : yX11_years.cls ≠ "java/lang/invoke/MethodHandle" ∧ yX11_years.cls ≠ "java/lang/invoke/VarHandle" ∧ (parseMethodDescriptor yX11_years.desc).map (fun d => d.parameters.length) = some 5 := ⟨cq_RX11.1, cq_RX11.2, pd_24⟩
theorem k1136 : Cond.methodLink RL 128 yX10_spared ∈ gt := gt_5_3 (i := 18) rfl rfl
theorem k1137 : Cond.instanceMethod yX10_spared ∈ gt := gt_5_3 (i := 19) rfl rfl
theorem k1138 : Cond.selects RX10 yX10_spared yX10_spared ∈ gt := gt_5_3 (i := 20) rfl rfl
theorem k1139 : Cond.code yX10_spared cX10_spared 6 (some .int) ∈ gt := gt_5_3 (i := 21) rfl rfl
theorem np_X10_spared : yX10_spared.cls ≠ "java/lang/invoke/MethodHandle" ∧ yX10_spared.cls ≠ "java/lang/invoke/VarHandle" ∧ (parseMethodDescriptor yX10_spared.desc).map (fun d => d.parameters.length) = some 3 := ⟨cq_RX10.1, cq_RX10.2, pd_15⟩
theorem k1727 : Cond.methodLink RL 131 yX11_spared ∈ gt := gt_7_8 (i := 9) rfl rfl
theorem k1728 : Cond.instanceMethod yX11_spared ∈ gt := gt_7_8 (i := 10) rfl rfl
theorem k1729 : Cond.selects RX11 yX11_spared yX11_spared ∈ gt := gt_7_8 (i := 11) rfl rfl
theorem k1730 : Cond.code yX11_spared cX11_spared 6 (some .int) ∈ gt := gt_7_8 (i := 12) rfl rfl
theorem np_X11_spared : yX11_spared.cls ≠ "java/lang/invoke/MethodHandle" ∧ yX11_spared.cls ≠ "java/lang/invoke/VarHandle" ∧ (parseMethodDescriptor yX11_spared.desc).map (fun d => d.parameters.length) = some 3 := ⟨cq_RX11.1, cq_RX11.2, pd_15⟩
theorem k1140 : Cond.methodLink RL 132 yX10_deep ∈ gt := gt_5_3 (i := 22) rfl rfl
theorem k1141 : Cond.instanceMethod yX10_deep ∈ gt := gt_5_3 (i := 23) rfl rfl
theorem k1142 : Cond.selects RX10 yX10_deep yX10_deep ∈ gt := gt_5_4 (i := 0) rfl rfl
theorem k1143 : Cond.code yX10_deep cX10_deep 3 (some .int) ∈ gt := gt_5_4 (i := 1) rfl rfl
theorem np_X10_deep : yX10_deep.cls ≠ "java/lang/invoke/MethodHandle" ∧ yX10_deep.cls ≠ "java/lang/invoke/VarHandle" ∧ (parseMethodDescriptor yX10_deep.desc).map (fun d => d.parameters.length) = some 2 := ⟨cq_RX10.1, cq_RX10.2, pd_11⟩
theorem k1731 : Cond.methodLink RL 135 yX11_deep ∈ gt := gt_7_8 (i := 13) rfl rfl
theorem k1732 : Cond.instanceMethod yX11_deep ∈ gt := gt_7_8 (i := 14) rfl rfl
theorem k1733 : Cond.selects RX11 yX11_deep yX11_deep ∈ gt := gt_7_8 (i := 15) rfl rfl
theorem k1734 : Cond.code yX11_deep cX11_deep 7 (some .int) ∈ gt := gt_7_8 (i := 16) rfl rfl
theorem np_X11_deep : yX11_deep.cls ≠ "java/lang/invoke/MethodHandle" ∧ yX11_deep.cls ≠ "java/lang/invoke/VarHandle" ∧ (parseMethodDescriptor yX11_deep.desc).map (fun d => d.parameters.length) = some 2 := ⟨cq_RX11.1, cq_RX11.2, pd_11⟩
theorem k1150 : Cond.methodLink RL 136 yX10_safe ∈ gt := gt_5_4 (i := 8) rfl rfl
theorem k1151 : Cond.instanceMethod yX10_safe ∈ gt := gt_5_4 (i := 9) rfl rfl
theorem k1152 : Cond.selects RX10 yX10_safe yX10_safe ∈ gt := gt_5_4 (i := 10) rfl rfl
theorem k1153 : Cond.code yX10_safe cX10_safe 4 (some .int) ∈ gt := gt_5_4 (i := 11) rfl rfl
theorem np_X10_safe : yX10_safe.cls ≠ "java/lang/invoke/MethodHandle" ∧ yX10_safe.cls ≠ "java/lang/invoke/VarHandle" ∧ (parseMethodDescriptor yX10_safe.desc).map (fun d => d.parameters.length) = some 2 := ⟨cq_RX10.1, cq_RX10.2, pd_11⟩
theorem k1735 : Cond.methodLink RL 139 yX11_safe ∈ gt := gt_7_8 (i := 17) rfl rfl
theorem k1736 : Cond.instanceMethod yX11_safe ∈ gt := gt_7_8 (i := 18) rfl rfl
theorem k1737 : Cond.selects RX11 yX11_safe yX11_safe ∈ gt := gt_7_8 (i := 19) rfl rfl
theorem k1738 : Cond.code yX11_safe cX11_safe 5 (some .int) ∈ gt := gt_7_8 (i := 20) rfl rfl
theorem np_X11_safe : yX11_safe.cls ≠ "java/lang/invoke/MethodHandle" ∧ yX11_safe.cls ≠ "java/lang/invoke/VarHandle" ∧ (parseMethodDescriptor yX11_safe.desc).map (fun d => d.parameters.length) = some 2 := ⟨cq_RX11.1, cq_RX11.2, pd_11⟩
theorem k1154 : Cond.methodLink RL 140 yX10_weighs ∈ gt := gt_5_4 (i := 12) rfl rfl
theorem k1155 : Cond.instanceMethod yX10_weighs ∈ gt := gt_5_4 (i := 13) rfl rfl
theorem k1156 : Cond.selects RX10 yX10_weighs yX10_weighs ∈ gt := gt_5_4 (i := 14) rfl rfl
theorem k1157 : Cond.code yX10_weighs cX10_weighs 3 (some .int) ∈ gt := gt_5_4 (i := 15) rfl rfl
theorem np_X10_weighs : yX10_weighs.cls ≠ "java/lang/invoke/MethodHandle" ∧ yX10_weighs.cls ≠ "java/lang/invoke/VarHandle" ∧ (parseMethodDescriptor yX10_weighs.desc).map (fun d => d.parameters.length) = some 2 := ⟨cq_RX10.1, cq_RX10.2, pd_11⟩
theorem k1739 : Cond.methodLink RL 143 yX11_weighs ∈ gt := gt_7_8 (i := 21) rfl rfl
theorem k1740 : Cond.instanceMethod yX11_weighs ∈ gt := gt_7_8 (i := 22) rfl rfl
theorem k1741 : Cond.selects RX11 yX11_weighs yX11_weighs ∈ gt := gt_7_8 (i := 23) rfl rfl
theorem k1742 : Cond.code yX11_weighs cX11_weighs 12 (some .int) ∈ gt := gt_7_9 (i := 0) rfl rfl
theorem np_X11_weighs : yX11_weighs.cls ≠ "java/lang/invoke/MethodHandle" ∧ yX11_weighs.cls ≠ "java/lang/invoke/VarHandle" ∧ (parseMethodDescriptor yX11_weighs.desc).map (fun d => d.parameters.length) = some 2 := ⟨cq_RX11.1, cq_RX11.2, pd_11⟩
theorem k1162 : Cond.methodLink RL 144 yX10_upon ∈ gt := gt_5_4 (i := 20) rfl rfl
theorem k1163 : Cond.instanceMethod yX10_upon ∈ gt := gt_5_4 (i := 21) rfl rfl
theorem k1164 : Cond.selects RX10 yX10_upon yX10_upon ∈ gt := gt_5_4 (i := 22) rfl rfl
theorem k1165 : Cond.code yX10_upon cX10_upon 5 (some .int) ∈ gt := gt_5_4 (i := 23) rfl rfl
theorem np_X10_upon : yX10_upon.cls ≠ "java/lang/invoke/MethodHandle" ∧ yX10_upon.cls ≠ "java/lang/invoke/VarHandle" ∧ (parseMethodDescriptor yX10_upon.desc).map (fun d => d.parameters.length) = some 4 := ⟨cq_RX10.1, cq_RX10.2, pd_28⟩
theorem k1743 : Cond.methodLink RL 147 yX11_upon ∈ gt := gt_7_9 (i := 1) rfl rfl
theorem k1744 : Cond.instanceMethod yX11_upon ∈ gt := gt_7_9 (i := 2) rfl rfl
theorem k1745 : Cond.selects RX11 yX11_upon yX11_upon ∈ gt := gt_7_9 (i := 3) rfl rfl
theorem k1746 : Cond.code yX11_upon cX11_upon 9 (some .int) ∈ gt := gt_7_9 (i := 4) rfl rfl
theorem np_X11_upon : yX11_upon.cls ≠ "java/lang/invoke/MethodHandle" ∧ yX11_upon.cls ≠ "java/lang/invoke/VarHandle" ∧ (parseMethodDescriptor yX11_upon.desc).map (fun d => d.parameters.length) = some 4 := ⟨cq_RX11.1, cq_RX11.2, pd_28⟩
theorem k1178 : Cond.methodLink RL 148 yX10_runs ∈ gt := gt_5_5 (i := 12) rfl rfl
theorem k1179 : Cond.instanceMethod yX10_runs ∈ gt := gt_5_5 (i := 13) rfl rfl
theorem k1180 : Cond.selects RX10 yX10_runs yX10_runs ∈ gt := gt_5_5 (i := 14) rfl rfl
theorem k1181 : Cond.code yX10_runs cX10_runs 5 (some .int) ∈ gt := gt_5_5 (i := 15) rfl rfl
theorem np_X10_runs : yX10_runs.cls ≠ "java/lang/invoke/MethodHandle" ∧ yX10_runs.cls ≠ "java/lang/invoke/VarHandle" ∧ (parseMethodDescriptor yX10_runs.desc).map (fun d => d.parameters.length) = some 3 := ⟨cq_RX10.1, cq_RX10.2, pd_15⟩
theorem k1751 : Cond.methodLink RL 151 yX11_runs ∈ gt := gt_7_9 (i := 9) rfl rfl
theorem k1752 : Cond.instanceMethod yX11_runs ∈ gt := gt_7_9 (i := 10) rfl rfl
theorem k1753 : Cond.selects RX11 yX11_runs yX11_runs ∈ gt := gt_7_9 (i := 11) rfl rfl
theorem k1754 : Cond.code yX11_runs cX11_runs 5 (some .int) ∈ gt := gt_7_9 (i := 12) rfl rfl
theorem np_X11_runs : yX11_runs.cls ≠ "java/lang/invoke/MethodHandle" ∧ yX11_runs.cls ≠ "java/lang/invoke/VarHandle" ∧ (parseMethodDescriptor yX11_runs.desc).map (fun d => d.parameters.length) = some 3 := ⟨cq_RX11.1, cq_RX11.2, pd_15⟩
theorem k1182 : Cond.methodLink RL 152 yX10_joint ∈ gt := gt_5_5 (i := 16) rfl rfl
theorem k1183 : Cond.instanceMethod yX10_joint ∈ gt := gt_5_5 (i := 17) rfl rfl
theorem k1184 : Cond.selects RX10 yX10_joint yX10_joint ∈ gt := gt_5_5 (i := 18) rfl rfl
theorem k1185 : Cond.code yX10_joint cX10_joint 5 (some .long) ∈ gt := gt_5_5 (i := 19) rfl rfl
theorem np_X10_joint : yX10_joint.cls ≠ "java/lang/invoke/MethodHandle" ∧ yX10_joint.cls ≠ "java/lang/invoke/VarHandle" ∧ (parseMethodDescriptor yX10_joint.desc).map (fun d => d.parameters.length) = some 4 := ⟨cq_RX10.1, cq_RX10.2, pd_20⟩
theorem k1755 : Cond.methodLink RL 155 yX11_joint ∈ gt := gt_7_9 (i := 13) rfl rfl
theorem k1756 : Cond.instanceMethod yX11_joint ∈ gt := gt_7_9 (i := 14) rfl rfl
theorem k1757 : Cond.selects RX11 yX11_joint yX11_joint ∈ gt := gt_7_9 (i := 15) rfl rfl
theorem k1758 : Cond.code yX11_joint cX11_joint 5 (some .long) ∈ gt := gt_7_9 (i := 16) rfl rfl
theorem np_X11_joint : yX11_joint.cls ≠ "java/lang/invoke/MethodHandle" ∧ yX11_joint.cls ≠ "java/lang/invoke/VarHandle" ∧ (parseMethodDescriptor yX11_joint.desc).map (fun d => d.parameters.length) = some 4 := ⟨cq_RX11.1, cq_RX11.2, pd_20⟩
theorem k1186 : Cond.methodLink RL 156 yX10_given ∈ gt := gt_5_5 (i := 20) rfl rfl
theorem k1187 : Cond.instanceMethod yX10_given ∈ gt := gt_5_5 (i := 21) rfl rfl
theorem k1188 : Cond.selects RX10 yX10_given yX10_given ∈ gt := gt_5_5 (i := 22) rfl rfl
theorem k1189 : Cond.code yX10_given cX10_given 8 (some .long) ∈ gt := gt_5_5 (i := 23) rfl rfl
theorem np_X10_given : yX10_given.cls ≠ "java/lang/invoke/MethodHandle" ∧ yX10_given.cls ≠ "java/lang/invoke/VarHandle" ∧ (parseMethodDescriptor yX10_given.desc).map (fun d => d.parameters.length) = some 5 := ⟨cq_RX10.1, cq_RX10.2, pd_27⟩
theorem k1763 : Cond.methodLink RL 160 yX11_given ∈ gt := gt_7_9 (i := 21) rfl rfl
theorem k1764 : Cond.instanceMethod yX11_given ∈ gt := gt_7_9 (i := 22) rfl rfl
theorem k1765 : Cond.selects RX11 yX11_given yX11_given ∈ gt := gt_7_9 (i := 23) rfl rfl
theorem k1766 : Cond.code yX11_given cX11_given 10 (some .long) ∈ gt := gt_8_0 (i := 0) rfl rfl
theorem np_X11_given : yX11_given.cls ≠ "java/lang/invoke/MethodHandle" ∧ yX11_given.cls ≠ "java/lang/invoke/VarHandle" ∧ (parseMethodDescriptor yX11_given.desc).map (fun d => d.parameters.length) = some 5 := ⟨cq_RX11.1, cq_RX11.2, pd_27⟩
theorem k1190 : Cond.methodLink RL 161 yX10_worst ∈ gt := gt_5_6 (i := 0) rfl rfl
theorem k1191 : Cond.instanceMethod yX10_worst ∈ gt := gt_5_6 (i := 1) rfl rfl
theorem k1192 : Cond.selects RX10 yX10_worst yX10_worst ∈ gt := gt_5_6 (i := 2) rfl rfl
theorem k1193 : Cond.code yX10_worst cX10_worst 4 (some .long) ∈ gt := gt_5_6 (i := 3) rfl rfl
theorem np_X10_worst : yX10_worst.cls ≠ "java/lang/invoke/MethodHandle" ∧ yX10_worst.cls ≠ "java/lang/invoke/VarHandle" ∧ (parseMethodDescriptor yX10_worst.desc).map (fun d => d.parameters.length) = some 3 := ⟨cq_RX10.1, cq_RX10.2, pd_16⟩
theorem k1770 : Cond.methodLink RL 164 yX11_worst ∈ gt := gt_8_0 (i := 4) rfl rfl
theorem k1771 : Cond.instanceMethod yX11_worst ∈ gt := gt_8_0 (i := 5) rfl rfl
theorem k1772 : Cond.selects RX11 yX11_worst yX11_worst ∈ gt := gt_8_0 (i := 6) rfl rfl
theorem k1773 : Cond.code yX11_worst cX11_worst 9 (some .long) ∈ gt := gt_8_0 (i := 7) rfl rfl
theorem np_X11_worst : yX11_worst.cls ≠ "java/lang/invoke/MethodHandle" ∧ yX11_worst.cls ≠ "java/lang/invoke/VarHandle" ∧ (parseMethodDescriptor yX11_worst.desc).map (fun d => d.parameters.length) = some 3 := ⟨cq_RX11.1, cq_RX11.2, pd_16⟩
theorem k1199 : Cond.methodLink RL 165 yX10_flood ∈ gt := gt_5_6 (i := 9) rfl rfl
theorem k1200 : Cond.instanceMethod yX10_flood ∈ gt := gt_5_6 (i := 10) rfl rfl
theorem k1201 : Cond.selects RX10 yX10_flood yX10_flood ∈ gt := gt_5_6 (i := 11) rfl rfl
theorem k1202 : Cond.code yX10_flood cX10_flood 3 (some .int) ∈ gt := gt_5_6 (i := 12) rfl rfl
theorem np_X10_flood : yX10_flood.cls ≠ "java/lang/invoke/MethodHandle" ∧ yX10_flood.cls ≠ "java/lang/invoke/VarHandle" ∧ (parseMethodDescriptor yX10_flood.desc).map (fun d => d.parameters.length) = some 2 := ⟨cq_RX10.1, cq_RX10.2, pd_11⟩
theorem k1774 : Cond.methodLink RL 168 yX11_flood ∈ gt := gt_8_0 (i := 8) rfl rfl
theorem k1775 : Cond.instanceMethod yX11_flood ∈ gt := gt_8_0 (i := 9) rfl rfl
theorem k1776 : Cond.selects RX11 yX11_flood yX11_flood ∈ gt := gt_8_0 (i := 10) rfl rfl
theorem k1777 : Cond.code yX11_flood cX11_flood 6 (some .int) ∈ gt := gt_8_0 (i := 11) rfl rfl
theorem np_X11_flood : yX11_flood.cls ≠ "java/lang/invoke/MethodHandle" ∧ yX11_flood.cls ≠ "java/lang/invoke/VarHandle" ∧ (parseMethodDescriptor yX11_flood.desc).map (fun d => d.parameters.length) = some 2 := ⟨cq_RX11.1, cq_RX11.2, pd_11⟩
theorem k1207 : Cond.methodLink RL 169 yX10_around ∈ gt := gt_5_6 (i := 17) rfl rfl
theorem k1208 : Cond.instanceMethod yX10_around ∈ gt := gt_5_6 (i := 18) rfl rfl
theorem k1209 : Cond.selects RX10 yX10_around yX10_around ∈ gt := gt_5_6 (i := 19) rfl rfl
theorem k1210 : Cond.code yX10_around cX10_around 4 (some .int) ∈ gt := gt_5_6 (i := 20) rfl rfl
theorem np_X10_around : yX10_around.cls ≠ "java/lang/invoke/MethodHandle" ∧ yX10_around.cls ≠ "java/lang/invoke/VarHandle" ∧ (parseMethodDescriptor yX10_around.desc).map (fun d => d.parameters.length) = some 3 := ⟨cq_RX10.1, cq_RX10.2, pd_32⟩
theorem k1778 : Cond.methodLink RL 173 yX11_around ∈ gt := gt_8_0 (i := 12) rfl rfl
theorem k1779 : Cond.instanceMethod yX11_around ∈ gt := gt_8_0 (i := 13) rfl rfl
theorem k1780 : Cond.selects RX11 yX11_around yX11_around ∈ gt := gt_8_0 (i := 14) rfl rfl
theorem k1781 : Cond.code yX11_around cX11_around 13 (some .int) ∈ gt := gt_8_0 (i := 15) rfl rfl
theorem np_X11_around : yX11_around.cls ≠ "java/lang/invoke/MethodHandle" ∧ yX11_around.cls ≠ "java/lang/invoke/VarHandle" ∧ (parseMethodDescriptor yX11_around.desc).map (fun d => d.parameters.length) = some 3 := ⟨cq_RX11.1, cq_RX11.2, pd_32⟩
theorem k1216 : Cond.methodLink RL 174 yX10_twice ∈ gt := gt_5_7 (i := 2) rfl rfl
theorem k1217 : Cond.instanceMethod yX10_twice ∈ gt := gt_5_7 (i := 3) rfl rfl
theorem k1218 : Cond.selects RX10 yX10_twice yX10_twice ∈ gt := gt_5_7 (i := 4) rfl rfl
theorem k1219 : Cond.code yX10_twice cX10_twice 8 (some .int) ∈ gt := gt_5_7 (i := 5) rfl rfl
theorem np_X10_twice : yX10_twice.cls ≠ "java/lang/invoke/MethodHandle" ∧ yX10_twice.cls ≠ "java/lang/invoke/VarHandle" ∧ (parseMethodDescriptor yX10_twice.desc).map (fun d => d.parameters.length) = some 7 := ⟨cq_RX10.1, cq_RX10.2, pd_26⟩
theorem k1782 : Cond.methodLink RL 178 yX11_twice ∈ gt := gt_8_0 (i := 16) rfl rfl
theorem k1783 : Cond.instanceMethod yX11_twice ∈ gt := gt_8_0 (i := 17) rfl rfl
theorem k1784 : Cond.selects RX11 yX11_twice yX11_twice ∈ gt := gt_8_0 (i := 18) rfl rfl
theorem k1785 : Cond.code yX11_twice cX11_twice 9 (some .int) ∈ gt := gt_8_0 (i := 19) rfl rfl
theorem np_X11_twice : yX11_twice.cls ≠ "java/lang/invoke/MethodHandle" ∧ yX11_twice.cls ≠ "java/lang/invoke/VarHandle" ∧ (parseMethodDescriptor yX11_twice.desc).map (fun d => d.parameters.length) = some 7 := ⟨cq_RX11.1, cq_RX11.2, pd_26⟩
theorem k1228 : Cond.methodLink RL 179 yX10_better ∈ gt := gt_5_7 (i := 14) rfl rfl
theorem k1229 : Cond.instanceMethod yX10_better ∈ gt := gt_5_7 (i := 15) rfl rfl
theorem k1230 : Cond.selects RX10 yX10_better yX10_better ∈ gt := gt_5_7 (i := 16) rfl rfl
theorem k1231 : Cond.code yX10_better cX10_better 8 (some .int) ∈ gt := gt_5_7 (i := 17) rfl rfl
theorem np_X10_better : yX10_better.cls ≠ "java/lang/invoke/MethodHandle" ∧ yX10_better.cls ≠ "java/lang/invoke/VarHandle" ∧ (parseMethodDescriptor yX10_better.desc).map (fun d => d.parameters.length) = some 3 := ⟨cq_RX10.1, cq_RX10.2, pd_15⟩
theorem k1786 : Cond.methodLink RL 182 yX11_better ∈ gt := gt_8_0 (i := 20) rfl rfl
theorem k1787 : Cond.instanceMethod yX11_better ∈ gt := gt_8_0 (i := 21) rfl rfl
theorem k1788 : Cond.selects RX11 yX11_better yX11_better ∈ gt := gt_8_0 (i := 22) rfl rfl
theorem k1789 : Cond.code yX11_better cX11_better 8 (some .int) ∈ gt := gt_8_0 (i := 23) rfl rfl
theorem np_X11_better : yX11_better.cls ≠ "java/lang/invoke/MethodHandle" ∧ yX11_better.cls ≠ "java/lang/invoke/VarHandle" ∧ (parseMethodDescriptor yX11_better.desc).map (fun d => d.parameters.length) = some 3 := ⟨cq_RX11.1, cq_RX11.2, pd_15⟩
theorem k1232 : Cond.methodLink RL 183 yX10_spend ∈ gt := gt_5_7 (i := 18) rfl rfl
theorem k1233 : Cond.instanceMethod yX10_spend ∈ gt := gt_5_7 (i := 19) rfl rfl
theorem k1234 : Cond.selects RX10 yX10_spend yX10_spend ∈ gt := gt_5_7 (i := 20) rfl rfl
theorem k1235 : Cond.code yX10_spend cX10_spend 5 (some .int) ∈ gt := gt_5_7 (i := 21) rfl rfl
theorem np_X10_spend : yX10_spend.cls ≠ "java/lang/invoke/MethodHandle" ∧ yX10_spend.cls ≠ "java/lang/invoke/VarHandle" ∧ (parseMethodDescriptor yX10_spend.desc).map (fun d => d.parameters.length) = some 4 := ⟨cq_RX10.1, cq_RX10.2, pd_19⟩
theorem k1790 : Cond.methodLink RL 186 yX11_spend ∈ gt := gt_8_1 (i := 0) rfl rfl
theorem k1791 : Cond.instanceMethod yX11_spend ∈ gt := gt_8_1 (i := 1) rfl rfl
theorem k1792 : Cond.selects RX11 yX11_spend yX11_spend ∈ gt := gt_8_1 (i := 2) rfl rfl
theorem k1793 : Cond.code yX11_spend cX11_spend 9 (some .int) ∈ gt := gt_8_1 (i := 3) rfl rfl
theorem np_X11_spend : yX11_spend.cls ≠ "java/lang/invoke/MethodHandle" ∧ yX11_spend.cls ≠ "java/lang/invoke/VarHandle" ∧ (parseMethodDescriptor yX11_spend.desc).map (fun d => d.parameters.length) = some 4 := ⟨cq_RX11.1, cq_RX11.2, pd_19⟩
theorem k1241 : Cond.methodLink RL 187 yX10_count ∈ gt := gt_5_8 (i := 3) rfl rfl
theorem k1242 : Cond.instanceMethod yX10_count ∈ gt := gt_5_8 (i := 4) rfl rfl
theorem k1243 : Cond.selects RX10 yX10_count yX10_count ∈ gt := gt_5_8 (i := 5) rfl rfl
theorem k1244 : Cond.code yX10_count cX10_count 2 (some .int) ∈ gt := gt_5_8 (i := 6) rfl rfl
theorem np_X10_count : yX10_count.cls ≠ "java/lang/invoke/MethodHandle" ∧ yX10_count.cls ≠ "java/lang/invoke/VarHandle" ∧ (parseMethodDescriptor yX10_count.desc).map (fun d => d.parameters.length) = some 1 := ⟨cq_RX10.1, cq_RX10.2, pd_6⟩
theorem k1794 : Cond.methodLink RL 190 yX11_count ∈ gt := gt_8_1 (i := 4) rfl rfl
theorem k1795 : Cond.instanceMethod yX11_count ∈ gt := gt_8_1 (i := 5) rfl rfl
theorem k1796 : Cond.selects RX11 yX11_count yX11_count ∈ gt := gt_8_1 (i := 6) rfl rfl
theorem k1797 : Cond.code yX11_count cX11_count 2 (some .int) ∈ gt := gt_8_1 (i := 7) rfl rfl
theorem np_X11_count : yX11_count.cls ≠ "java/lang/invoke/MethodHandle" ∧ yX11_count.cls ≠ "java/lang/invoke/VarHandle" ∧ (parseMethodDescriptor yX11_count.desc).map (fun d => d.parameters.length) = some 1 := ⟨cq_RX11.1, cq_RX11.2, pd_6⟩
theorem k1245 : Cond.methodLink RL 191 yX10_image ∈ gt := gt_5_8 (i := 7) rfl rfl
theorem k1246 : Cond.instanceMethod yX10_image ∈ gt := gt_5_8 (i := 8) rfl rfl
theorem k1247 : Cond.selects RX10 yX10_image yX10_image ∈ gt := gt_5_8 (i := 9) rfl rfl
theorem k1248 : Cond.code yX10_image cX10_image 2 (some .boolean) ∈ gt := gt_5_8 (i := 10) rfl rfl
theorem np_X10_image : yX10_image.cls ≠ "java/lang/invoke/MethodHandle" ∧ yX10_image.cls ≠ "java/lang/invoke/VarHandle" ∧ (parseMethodDescriptor yX10_image.desc).map (fun d => d.parameters.length) = some 1 := ⟨cq_RX10.1, cq_RX10.2, pd_10⟩
theorem k1798 : Cond.methodLink RL 195 yX11_image ∈ gt := gt_8_1 (i := 8) rfl rfl
theorem k1799 : Cond.instanceMethod yX11_image ∈ gt := gt_8_1 (i := 9) rfl rfl
theorem k1800 : Cond.selects RX11 yX11_image yX11_image ∈ gt := gt_8_1 (i := 10) rfl rfl
theorem k1801 : Cond.code yX11_image cX11_image 2 (some .boolean) ∈ gt := gt_8_1 (i := 11) rfl rfl
theorem np_X11_image : yX11_image.cls ≠ "java/lang/invoke/MethodHandle" ∧ yX11_image.cls ≠ "java/lang/invoke/VarHandle" ∧ (parseMethodDescriptor yX11_image.desc).map (fun d => d.parameters.length) = some 1 := ⟨cq_RX11.1, cq_RX11.2, pd_10⟩
theorem k1254 : Cond.methodLink RL 196 yX10_again ∈ gt := gt_5_8 (i := 16) rfl rfl
theorem k1255 : Cond.instanceMethod yX10_again ∈ gt := gt_5_8 (i := 17) rfl rfl
theorem k1256 : Cond.selects RX10 yX10_again yX10_again ∈ gt := gt_5_8 (i := 18) rfl rfl
theorem k1257 : Cond.code yX10_again cX10_again 2 (some .boolean) ∈ gt := gt_5_8 (i := 19) rfl rfl
theorem np_X10_again : yX10_again.cls ≠ "java/lang/invoke/MethodHandle" ∧ yX10_again.cls ≠ "java/lang/invoke/VarHandle" ∧ (parseMethodDescriptor yX10_again.desc).map (fun d => d.parameters.length) = some 1 := ⟨cq_RX10.1, cq_RX10.2, pd_10⟩
theorem k1809 : Cond.methodLink RL 199 yX11_again ∈ gt := gt_8_1 (i := 19) rfl rfl
theorem k1810 : Cond.instanceMethod yX11_again ∈ gt := gt_8_1 (i := 20) rfl rfl
theorem k1811 : Cond.selects RX11 yX11_again yX11_again ∈ gt := gt_8_1 (i := 21) rfl rfl
theorem k1812 : Cond.code yX11_again cX11_again 2 (some .boolean) ∈ gt := gt_8_1 (i := 22) rfl rfl
theorem np_X11_again : yX11_again.cls ≠ "java/lang/invoke/MethodHandle" ∧ yX11_again.cls ≠ "java/lang/invoke/VarHandle" ∧ (parseMethodDescriptor yX11_again.desc).map (fun d => d.parameters.length) = some 1 := ⟨cq_RX11.1, cq_RX11.2, pd_10⟩
set_option maxHeartbeats 4000000 in
set_option maxRecDepth 100000 in
theorem law_22 {x : JX} {bb L k n : Nat} {xs : Nat → Int32} {i : Int32} {u : Nat → Nat → Int32} {g : Nat → Nat → Int64} {ex : List MC} (hq : LQ x bb) (hcon : x.2.2.2.2.2.2.2.2.2.2.2.2.2.2.1 0 = some (L, xs)) (hi : LI i L) (hI : INX u) (hk : k = 182 + ex.length) (hb : k + 1 ≤ 600000 ∧ n + 1 ≤ 7302250) (hd : 11 ≤ 11) (K : ∀ (u2 : Nat → Nat → Int32) (g2 : Nat → Nat → Int64) (ex2 : List MC) (k2 n2 : Nat), INX u2 → k2 = 182 + ex2.length → k2 ≤ k + 1 → n2 ≤ n + 1 → J x yL_law code 4 ret 11 600000 7302250 0 2255 [(3, .int i), (2, .ref 162), (1, .ref 0), (0, .retAddr 0)] [] (Wd u2 g2 ex2) k2 n2) : J x yL_law code 4 ret 11 600000 7302250 0 1264 [(3, .int i), (2, .ref 162), (1, .ref 0), (0, .retAddr 0)] [] (Wd u g ex) k n := by
  obtain ⟨hI, hR⟩ := hI
  obtain ⟨H0, H1, H2, H3, H4, H5, H6, f0, f1, f2, f3⟩ := hI
  have X0 := H0
  obtain ⟨a0_0, a0_1, a0_2, a0_3, a0_4, a0_5, a0_6, a0_7, a0_8, a0_9, a0_10, a0_11, a0_12, a0_13, a0_14, a0_15⟩ := X0
  have X1 := H1
  obtain ⟨a1_0, a1_1, a1_2, a1_3, a1_4, a1_5, a1_6, a1_7, a1_8, a1_9, a1_10, a1_11, a1_12, a1_13, a1_14, a1_15, a1_16, a1_17, a1_18, a1_19, a1_20, a1_21, a1_22, a1_23, a1_24, a1_25, a1_26, a1_27, a1_28, a1_29, a1_30, a1_31, a1_32, a1_33, a1_34, a1_35, a1_36, a1_37, a1_38, a1_39, a1_40, a1_41, a1_42, a1_43, a1_44, a1_45, a1_46, a1_47⟩ := X1
  have X2 := H2
  obtain ⟨a2_0, a2_1, a2_2, a2_3, a2_4, a2_5⟩ := X2
  have X3 := H3
  obtain ⟨a3_0, a3_1, a3_2, a3_3, a3_4, a3_5, a3_6, a3_7, a3_8, a3_9, a3_10, a3_11, a3_12, a3_13, a3_14, a3_15, a3_16⟩ := X3
  have X4 := H4
  obtain ⟨a4_0, a4_1, a4_2, a4_3, a4_4, a4_5, a4_6⟩ := X4
  have X5 := H5
  obtain ⟨a5_0, a5_1⟩ := X5
  have X6 := H6
  obtain ⟨a6_0, a6_1, a6_2, a6_3, a6_4⟩ := X6
  refine J_aload_n (i := 1) (j := 2) dL_law_1264 rfl rfl ?_
  refine J_aload_nC (i := 0) (j := 3) dL_law_1265 rfl rfl ?_
  refine J_iload_n (i := 3) (j := 0) dL_law_1266 rfl rfl ?_
  refine J_iconst (v := 1) dL_law_1267 (by decide) ?_
  refine J_iadd dL_law_1268 ?_
  refine J_cald (z := L) (f := xs) dL_law_1269 hcon (li_in hi (by decide)) ?_
  refine J_aload_nC (i := 0) (j := 3) dL_law_1270 rfl rfl ?_
  refine J_iload_n (i := 3) (j := 0) dL_law_1271 rfl rfl ?_
  refine J_iconst (v := 2) dL_law_1272 (by decide) ?_
  refine J_iadd dL_law_1273 ?_
  refine J_cald (z := L) (f := xs) dL_law_1274 hcon (li_in hi (by decide)) ?_
  refine J_aload_nC (i := 0) (j := 3) dL_law_1275 rfl rfl ?_
  refine J_iload_n (i := 3) (j := 0) dL_law_1276 rfl rfl ?_
  refine J_iconst (v := 3) dL_law_1277 (by decide) ?_
  refine J_iadd dL_law_1278 ?_
  refine J_cald (z := L) (f := xs) dL_law_1279 hcon (li_in hi (by decide)) ?_
  refine J_aload_nC (i := 0) (j := 3) dL_law_1280 rfl rfl ?_
  refine J_iload_n (i := 3) (j := 0) dL_law_1281 rfl rfl ?_
  refine J_iconst (v := 4) dL_law_1282 (by decide) ?_
  refine J_iadd dL_law_1283 ?_
  refine J_cald (z := L) (f := xs) dL_law_1284 hcon (li_in hi (by decide)) ?_
  refine J_callV (As := [.int (xs (i + 1).toNatClampNeg), .int (xs (i + 2).toNatClampNeg), .int (xs (i + 3).toNatClampNeg), .int (xs (i + 4).toNatClampNeg)]) (rest := []) dL_law_1285 (c_P_order (d := 6) (u := u) (g := g) (ex := ex) (hill := (xs (i + 1).toNatClampNeg)) (plan := (xs (i + 2).toNatClampNeg)) (ponds := (xs (i + 3).toNatClampNeg)) (k := (xs (i + 4).toNatClampNeg))  (by decide) a0_0 a0_5 a3_0 a3_1 a0_1 a0_2 a0_3 a0_4 a0_6 a0_7 a0_8 a3_2 a3_3 a0_9 a0_10 a0_11 a0_12 a0_13 a3_4 a3_7 a3_8 a3_9 a3_10 a3_11 a3_14 a3_15 a3_16) hq.n k1062 k1063 k1064 wc_0 rfl rfl k87 k1065 np_X10_order (Nat.le_trans (by decide) hd) (by decide) (lk1 hb) (ln1 hb) (wlk hk) rfl (Nat.le_of_ble_eq_true rfl) (fun r_ h_ p1 => ?_)
  obtain ⟨v2, u3, g4, rfl, rfl, h5, h6, h7, h8, h9, h10, h11, h12, h13, h14, h15, fr16, fc17, fc18, fc19, fc20, fc21, fc22⟩ := p1
  refine J_pop dL_law_1288 rfl ?_
  refine J_aload_n (i := 2) (j := 1) dL_law_1289 rfl rfl ?_
  refine J_aload_nC (i := 0) (j := 3) dL_law_1290 rfl rfl ?_
  refine J_iload_n (i := 3) (j := 0) dL_law_1291 rfl rfl ?_
  refine J_iconst (v := 1) dL_law_1292 (by decide) ?_
  refine J_iadd dL_law_1293 ?_
  refine J_cald (z := L) (f := xs) dL_law_1294 hcon (li_in hi (by decide)) ?_
  refine J_aload_nC (i := 0) (j := 3) dL_law_1295 rfl rfl ?_
  refine J_iload_n (i := 3) (j := 0) dL_law_1296 rfl rfl ?_
  refine J_iconst (v := 2) dL_law_1297 (by decide) ?_
  refine J_iadd dL_law_1298 ?_
  refine J_cald (z := L) (f := xs) dL_law_1299 hcon (li_in hi (by decide)) ?_
  refine J_aload_nC (i := 0) (j := 3) dL_law_1300 rfl rfl ?_
  refine J_iload_n (i := 3) (j := 0) dL_law_1301 rfl rfl ?_
  refine J_iconst (v := 3) dL_law_1302 (by decide) ?_
  refine J_iadd dL_law_1303 ?_
  refine J_cald (z := L) (f := xs) dL_law_1304 hcon (li_in hi (by decide)) ?_
  refine J_aload_nC (i := 0) (j := 3) dL_law_1305 rfl rfl ?_
  refine J_iload_n (i := 3) (j := 0) dL_law_1306 rfl rfl ?_
  refine J_iconst (v := 4) dL_law_1307 (by decide) ?_
  refine J_iadd dL_law_1308 ?_
  refine J_cald (z := L) (f := xs) dL_law_1309 hcon (li_in hi (by decide)) ?_
  refine J_callV (As := [.int (xs (i + 1).toNatClampNeg), .int (xs (i + 2).toNatClampNeg), .int (xs (i + 3).toNatClampNeg), .int (xs (i + 4).toNatClampNeg)]) (rest := []) dL_law_1310 (c_M_order (d := 7) (u := u3) (g := g4) (ex := ex) (hill := (xs (i + 1).toNatClampNeg)) (plan := (xs (i + 2).toNatClampNeg)) (ponds := (xs (i + 3).toNatClampNeg)) (k := (xs (i + 4).toNatClampNeg))  (by decide) (my_c (fr16 167 rfl) a4_0) (ab_c (fr16 168 rfl) a4_1) (hd_c (fr16 168 rfl) a4_2) (hc_c (fr16 167 rfl) (fr16 168 rfl) a4_3) (pl_c (fr16 169 rfl) a4_4) (n0_c (fr16 172 rfl) a6_0) (dn_c (fr16 172 rfl) a6_1) (bd_r (congrFun (fr16 162 rfl) 22) f0) (bd_r (congrFun (fr16 162 rfl) 31) f1) (ab_c (fr16 177 rfl) a6_2) (ab_c (fr16 178 rfl) a6_3) (ab_c (fr16 179 rfl) a6_4)) hq.n k1691 k1692 k1693 wc_162 rfl rfl k97 k1694 np_X11_order (Nat.le_trans (by decide) hd) (by decide) (lk1 hb) (ln1 hb) (wlk hk) rfl (Nat.le_of_ble_eq_true rfl) (fun r_ h_ p23 => ?_)
  obtain ⟨v24, u25, g26, rfl, rfl, h27, h28, h29, h30, h31, h32, fr33, fc34⟩ := p23
  refine J_pop dL_law_1313 rfl ?_
  refine J_goto (tgt := 2255) dL_law_1314 (by decide) ?_
  exact K u25 g26 ex k n ⟨⟨(ig0_c (fun c hc => ((fr33 c (nin_rg hc rfl)).trans (fr16 c (nin_rg hc rfl)))) H0), (ig1_c (fun c hc => ((fr33 c (nin_rg hc rfl)).trans (fr16 c (nin_rg hc rfl)))) H1), (ig2_c (fun c hc => ((fr33 c (nin_rg hc rfl)).trans (fr16 c (nin_rg hc rfl)))) H2), ⟨(bd_r (congrFun (fr33 44 rfl) 0) h5), (bd_r (congrFun (fr33 44 rfl) 2) h6), (bd_r ((congrFun (fr33 49 rfl) 0).trans (congrFun (fr16 49 rfl) 0)) a3_2), (ab_c (fr33 45 rfl) h7), (km_c ((fr33 50 rfl).trans (fr16 50 rfl)) ((fr33 52 rfl).trans (fr16 52 rfl)) a3_4), (bd_r ((congrFun (fr33 53 rfl) 0).trans (congrFun (fr16 53 rfl) 0)) a3_5), (bd_r ((congrFun (fr33 53 rfl) 1).trans (congrFun (fr16 53 rfl) 1)) a3_6), (bd_r (congrFun (fr33 61 rfl) 0) h8), (bd_r (congrFun (fr33 61 rfl) 2) h9), (ab_c (fr33 66 rfl) h10), (bd_r (congrFun (fr33 70 rfl) 0) h11), (bd_r (congrFun (fr33 70 rfl) 2) h12), (bd_r ((congrFun (fr33 79 rfl) 0).trans (congrFun (fr16 79 rfl) 0)) a3_12), (bd_r ((congrFun (fr33 79 rfl) 2).trans (congrFun (fr16 79 rfl) 2)) a3_13), (bd_r (congrFun (fr33 56 rfl) 5) h13), (ab_c (fr33 77 rfl) h14), (ab_c (fr33 76 rfl) h15)⟩, (ig4_c (fun c hc => ((fr33 c (nin_rg hc rfl)).trans (fr16 c (nin_rg hc rfl)))) H4), (ig5_c (fun c hc => ((fr33 c (nin_rg hc rfl)).trans (fr16 c (nin_rg hc rfl)))) H5), ⟨h29, h28, (ab_c ((fr33 177 rfl).trans (fr16 177 rfl)) a6_2), h31, h32⟩, h27, h30, (bd_r ((fc34 12 (Nat.ne_of_beq_eq_false rfl) (Nat.ne_of_beq_eq_false rfl) (Nat.ne_of_beq_eq_false rfl) (Nat.ne_of_beq_eq_false rfl) (Nat.ne_of_beq_eq_false rfl) (Nat.ne_of_beq_eq_false rfl) (Nat.ne_of_beq_eq_false rfl) (Nat.ne_of_beq_eq_false rfl) (Nat.ne_of_beq_eq_false rfl) (Nat.ne_of_beq_eq_false rfl) (Nat.ne_of_beq_eq_false rfl)).trans (congrFun (fr16 162 rfl) 12)) f2), (bd_r ((fc34 17 (Nat.ne_of_beq_eq_false rfl) (Nat.ne_of_beq_eq_false rfl) (Nat.ne_of_beq_eq_false rfl) (Nat.ne_of_beq_eq_false rfl) (Nat.ne_of_beq_eq_false rfl) (Nat.ne_of_beq_eq_false rfl) (Nat.ne_of_beq_eq_false rfl) (Nat.ne_of_beq_eq_false rfl) (Nat.ne_of_beq_eq_false rfl) (Nat.ne_of_beq_eq_false rfl) (Nat.ne_of_beq_eq_false rfl)).trans (congrFun (fr16 162 rfl) 17)) f3)⟩, (rly_2 (fun c hc => ((fr33 c (nin_y2 hc rfl)).trans (fr16 c (nin_y2 hc rfl)))) hR)⟩ hk (Nat.le_succ _) (Nat.le_succ _)
set_option maxHeartbeats 4000000 in
set_option maxRecDepth 100000 in
theorem law_23 {x : JX} {bb L k n : Nat} {xs : Nat → Int32} {i : Int32} {u : Nat → Nat → Int32} {g : Nat → Nat → Int64} {ex : List MC} (hq : LQ x bb) (hcon : x.2.2.2.2.2.2.2.2.2.2.2.2.2.2.1 0 = some (L, xs)) (hi : LI i L) (hI : INX u) (hk : k = 182 + ex.length) (hb : k + 1 ≤ 600000 ∧ n + 1 ≤ 7302250) (hd : 11 ≤ 11) (K : ∀ (u2 : Nat → Nat → Int32) (g2 : Nat → Nat → Int64) (ex2 : List MC) (k2 n2 : Nat), INX u2 → k2 = 182 + ex2.length → k2 ≤ k + 1 → n2 ≤ n + 1 → J x yL_law code 4 ret 11 600000 7302250 0 2255 [(3, .int i), (2, .ref 162), (1, .ref 0), (0, .retAddr 0)] [] (Wd u2 g2 ex2) k2 n2) : J x yL_law code 4 ret 11 600000 7302250 0 1317 [(3, .int i), (2, .ref 162), (1, .ref 0), (0, .retAddr 0)] [] (Wd u g ex) k n := by
  obtain ⟨hI, hR⟩ := hI
  obtain ⟨H0, H1, H2, H3, H4, H5, H6, f0, f1, f2, f3⟩ := hI
  have X0 := H0
  obtain ⟨a0_0, a0_1, a0_2, a0_3, a0_4, a0_5, a0_6, a0_7, a0_8, a0_9, a0_10, a0_11, a0_12, a0_13, a0_14, a0_15⟩ := X0
  have X1 := H1
  obtain ⟨a1_0, a1_1, a1_2, a1_3, a1_4, a1_5, a1_6, a1_7, a1_8, a1_9, a1_10, a1_11, a1_12, a1_13, a1_14, a1_15, a1_16, a1_17, a1_18, a1_19, a1_20, a1_21, a1_22, a1_23, a1_24, a1_25, a1_26, a1_27, a1_28, a1_29, a1_30, a1_31, a1_32, a1_33, a1_34, a1_35, a1_36, a1_37, a1_38, a1_39, a1_40, a1_41, a1_42, a1_43, a1_44, a1_45, a1_46, a1_47⟩ := X1
  have X2 := H2
  obtain ⟨a2_0, a2_1, a2_2, a2_3, a2_4, a2_5⟩ := X2
  have X3 := H3
  obtain ⟨a3_0, a3_1, a3_2, a3_3, a3_4, a3_5, a3_6, a3_7, a3_8, a3_9, a3_10, a3_11, a3_12, a3_13, a3_14, a3_15, a3_16⟩ := X3
  have X4 := H4
  obtain ⟨a4_0, a4_1, a4_2, a4_3, a4_4, a4_5, a4_6⟩ := X4
  have X5 := H5
  obtain ⟨a5_0, a5_1⟩ := X5
  have X6 := H6
  obtain ⟨a6_0, a6_1, a6_2, a6_3, a6_4⟩ := X6
  refine J_aload_n (i := 1) (j := 2) dL_law_1317 rfl rfl ?_
  refine J_aload_nC (i := 0) (j := 3) dL_law_1318 rfl rfl ?_
  refine J_iload_n (i := 3) (j := 0) dL_law_1319 rfl rfl ?_
  refine J_iconst (v := 1) dL_law_1320 (by decide) ?_
  refine J_iadd dL_law_1321 ?_
  refine J_cald (z := L) (f := xs) dL_law_1322 hcon (li_in hi (by decide)) ?_
  refine J_aload_nC (i := 0) (j := 3) dL_law_1323 rfl rfl ?_
  refine J_iload_n (i := 3) (j := 0) dL_law_1324 rfl rfl ?_
  refine J_iconst (v := 2) dL_law_1325 (by decide) ?_
  refine J_iadd dL_law_1326 ?_
  refine J_cald (z := L) (f := xs) dL_law_1327 hcon (li_in hi (by decide)) ?_
  refine J_aload_nC (i := 0) (j := 3) dL_law_1328 rfl rfl ?_
  refine J_iload_n (i := 3) (j := 0) dL_law_1329 rfl rfl ?_
  refine J_iconst (v := 3) dL_law_1330 (by decide) ?_
  refine J_iadd dL_law_1331 ?_
  refine J_cald (z := L) (f := xs) dL_law_1332 hcon (li_in hi (by decide)) ?_
  refine J_aload_nC (i := 0) (j := 3) dL_law_1333 rfl rfl ?_
  refine J_iload_n (i := 3) (j := 0) dL_law_1334 rfl rfl ?_
  refine J_iconst (v := 4) dL_law_1335 (by decide) ?_
  refine J_iadd dL_law_1336 ?_
  refine J_cald (z := L) (f := xs) dL_law_1337 hcon (li_in hi (by decide)) ?_
  have jn3 : ∀ (w2 : Int32), Bd 0 1 w2 → J x yL_law code 4 ret 11 600000 7302250 0 1346 [(0, .retAddr 0), (1, .ref 0), (2, .ref 162), (3, .int i)] [.int w2, .int (xs (i + 3).toNatClampNeg), .int (xs (i + 2).toNatClampNeg), .int (xs (i + 1).toNatClampNeg), .ref 0] (Wd u g ex) k n := by
    intro w2 bw2
    refine J_callV (As := [.int (xs (i + 1).toNatClampNeg), .int (xs (i + 2).toNatClampNeg), .int (xs (i + 3).toNatClampNeg), .int w2]) (rest := []) dL_law_1346 (c_P_think (d := 6) (u := u) (g := g) (ex := ex) (hill := (xs (i + 1).toNatClampNeg)) (plan := (xs (i + 2).toNatClampNeg)) (pond := (xs (i + 3).toNatClampNeg)) (under := w2)  (by decide) a0_0 a0_5 a3_0 a3_1 a0_1 a0_2 a0_3 a0_4 a0_6 a0_7 a0_8 a3_2 a3_3 a0_9 a0_10 a0_11 a0_12 a0_13 a3_4) hq.n k1070 k1071 k1072 wc_0 rfl rfl k87 k1073 np_X10_think (Nat.le_trans (by decide) hd) (by decide) (lk1 hb) (ln1 hb) (wlk hk) rfl (Nat.le_of_ble_eq_true rfl) (fun r_ h_ p4 => ?_)
    obtain ⟨v5, u6, rfl, rfl, h7, h8, h9, fr10, fc11, fc12⟩ := p4
    refine J_pop dL_law_1349 rfl ?_
    refine J_aload_n (i := 2) (j := 2) dL_law_1350 rfl rfl ?_
    refine J_aload_nC (i := 0) (j := 0) dL_law_1351 rfl rfl ?_
    refine J_iload_n (i := 3) (j := 3) dL_law_1352 rfl rfl ?_
    refine J_iconst (v := 1) dL_law_1353 (by decide) ?_
    refine J_iadd dL_law_1354 ?_
    refine J_cald (z := L) (f := xs) dL_law_1355 hcon (li_in hi (by decide)) ?_
    refine J_aload_nC (i := 0) (j := 0) dL_law_1356 rfl rfl ?_
    refine J_iload_n (i := 3) (j := 3) dL_law_1357 rfl rfl ?_
    refine J_iconst (v := 2) dL_law_1358 (by decide) ?_
    refine J_iadd dL_law_1359 ?_
    refine J_cald (z := L) (f := xs) dL_law_1360 hcon (li_in hi (by decide)) ?_
    refine J_aload_nC (i := 0) (j := 0) dL_law_1361 rfl rfl ?_
    refine J_iload_n (i := 3) (j := 3) dL_law_1362 rfl rfl ?_
    refine J_iconst (v := 3) dL_law_1363 (by decide) ?_
    refine J_iadd dL_law_1364 ?_
    refine J_cald (z := L) (f := xs) dL_law_1365 hcon (li_in hi (by decide)) ?_
    refine J_aload_nC (i := 0) (j := 0) dL_law_1366 rfl rfl ?_
    refine J_iload_n (i := 3) (j := 3) dL_law_1367 rfl rfl ?_
    refine J_iconst (v := 4) dL_law_1368 (by decide) ?_
    refine J_iadd dL_law_1369 ?_
    refine J_cald (z := L) (f := xs) dL_law_1370 hcon (li_in hi (by decide)) ?_
    have jn15 : ∀ (w14 : Int32), Bd 0 1 w14 → J x yL_law code 4 ret 11 600000 7302250 0 1379 [(0, .retAddr 0), (1, .ref 0), (2, .ref 162), (3, .int i)] [.int w14, .int (xs (i + 3).toNatClampNeg), .int (xs (i + 2).toNatClampNeg), .int (xs (i + 1).toNatClampNeg), .ref 162] (Wd u6 g ex) k n := by
      intro w14 bw14
      refine J_callV (As := [.int (xs (i + 1).toNatClampNeg), .int (xs (i + 2).toNatClampNeg), .int (xs (i + 3).toNatClampNeg), .int w14]) (rest := []) dL_law_1379 (c_M_think (d := 3) (u := u6) (g := g) (ex := ex) (hill := (xs (i + 1).toNatClampNeg)) (plan := (xs (i + 2).toNatClampNeg)) (pond := (xs (i + 3).toNatClampNeg)) (under := w14)  (by decide) (my_c (fr10 167 rfl) a4_0) (ab_c (fr10 168 rfl) a4_1) (hd_c (fr10 168 rfl) a4_2) (hc_c (fr10 167 rfl) (fr10 168 rfl) a4_3) (pl_c (fr10 169 rfl) a4_4) (n0_c (fr10 172 rfl) a6_0) (dn_c (fr10 172 rfl) a6_1) (bd_r (congrFun (fr10 162 rfl) 22) f0) (bd_r (congrFun (fr10 162 rfl) 31) f1) (ab_c (fr10 177 rfl) a6_2)) hq.n k1695 k1696 k1697 wc_162 rfl rfl k97 k1698 np_X11_think (Nat.le_trans (by decide) hd) (by decide) (lk1 hb) (ln1 hb) (wlk hk) rfl (Nat.le_of_ble_eq_true rfl) (fun r_ h_ p16 => ?_)
      obtain ⟨v17, u18, rfl, rfl, h19, h20, h21, h22, fr23, fc24⟩ := p16
      refine J_pop dL_law_1382 rfl ?_
      refine J_goto (tgt := 2255) dL_law_1383 (by decide) ?_
      refine J_lv [3, 2, 1, 0] rfl ?_
      exact K u18 g ex k n ⟨⟨(ig0_c (fun c hc => ((fr23 c (nin_rg hc rfl)).trans (fr10 c (nin_rg hc rfl)))) H0), (ig1_c (fun c hc => ((fr23 c (nin_rg hc rfl)).trans (fr10 c (nin_rg hc rfl)))) H1), (ig2_c (fun c hc => ((fr23 c (nin_rg hc rfl)).trans (fr10 c (nin_rg hc rfl)))) H2), ⟨(bd_r (congrFun (fr23 44 rfl) 0) h7), (bd_r (congrFun (fr23 44 rfl) 2) h8), (bd_r ((congrFun (fr23 49 rfl) 0).trans (congrFun (fr10 49 rfl) 0)) a3_2), (ab_c (fr23 45 rfl) h9), (km_c ((fr23 50 rfl).trans (fr10 50 rfl)) ((fr23 52 rfl).trans (fr10 52 rfl)) a3_4), (bd_r ((congrFun (fr23 53 rfl) 0).trans (congrFun (fr10 53 rfl) 0)) a3_5), (bd_r ((congrFun (fr23 53 rfl) 1).trans (congrFun (fr10 53 rfl) 1)) a3_6), (bd_r ((congrFun (fr23 61 rfl) 0).trans (congrFun (fr10 61 rfl) 0)) a3_7), (bd_r ((congrFun (fr23 61 rfl) 2).trans (congrFun (fr10 61 rfl) 2)) a3_8), (ab_c ((fr23 66 rfl).trans (fr10 66 rfl)) a3_9), (bd_r ((congrFun (fr23 70 rfl) 0).trans (congrFun (fr10 70 rfl) 0)) a3_10), (bd_r ((congrFun (fr23 70 rfl) 2).trans (congrFun (fr10 70 rfl) 2)) a3_11), (bd_r ((congrFun (fr23 79 rfl) 0).trans (congrFun (fr10 79 rfl) 0)) a3_12), (bd_r ((congrFun (fr23 79 rfl) 2).trans (congrFun (fr10 79 rfl) 2)) a3_13), (bd_r ((congrFun (fr23 56 rfl) 5).trans (congrFun (fr10 56 rfl) 5)) a3_14), (ab_c ((fr23 77 rfl).trans (fr10 77 rfl)) a3_15), (ab_c ((fr23 76 rfl).trans (fr10 76 rfl)) a3_16)⟩, (ig4_c (fun c hc => ((fr23 c (nin_rg hc rfl)).trans (fr10 c (nin_rg hc rfl)))) H4), (ig5_c (fun c hc => ((fr23 c (nin_rg hc rfl)).trans (fr10 c (nin_rg hc rfl)))) H5), ⟨h21, h20, (ab_c ((fr23 177 rfl).trans (fr10 177 rfl)) a6_2), (ab_c ((fr23 178 rfl).trans (fr10 178 rfl)) a6_3), (ab_c ((fr23 179 rfl).trans (fr10 179 rfl)) a6_4)⟩, h19, h22, (bd_r ((fc24 12 (Nat.ne_of_beq_eq_false rfl) (Nat.ne_of_beq_eq_false rfl) (Nat.ne_of_beq_eq_false rfl) (Nat.ne_of_beq_eq_false rfl) (Nat.ne_of_beq_eq_false rfl) (Nat.ne_of_beq_eq_false rfl) (Nat.ne_of_beq_eq_false rfl) (Nat.ne_of_beq_eq_false rfl) (Nat.ne_of_beq_eq_false rfl) (Nat.ne_of_beq_eq_false rfl)).trans (congrFun (fr10 162 rfl) 12)) f2), (bd_r ((fc24 17 (Nat.ne_of_beq_eq_false rfl) (Nat.ne_of_beq_eq_false rfl) (Nat.ne_of_beq_eq_false rfl) (Nat.ne_of_beq_eq_false rfl) (Nat.ne_of_beq_eq_false rfl) (Nat.ne_of_beq_eq_false rfl) (Nat.ne_of_beq_eq_false rfl) (Nat.ne_of_beq_eq_false rfl) (Nat.ne_of_beq_eq_false rfl) (Nat.ne_of_beq_eq_false rfl)).trans (congrFun (fr10 162 rfl) 17)) f3)⟩, (rly_2 (fun c hc => ((fr23 c (nin_y2 hc rfl)).trans (fr10 c (nin_y2 hc rfl)))) hR)⟩ hk (Nat.le_succ _) (Nat.le_succ _)
    refine J_if_eq (tgt := 1378) dL_law_1371 (by decide) (fun c13 => ?_) (fun c13 => ?_)
    · refine J_iconst (v := 0) dL_law_1378 (by decide) ?_
      refine J_lv [0, 1, 2, 3] rfl ?_
      exact jn15 (0 : Int32) (bd_w (l := 0) (h := 1) (bd_c (v := 0) (lo := 0) (hi := 0) (by decide)) (by decide))
    · refine J_iconst (v := 1) dL_law_1374 (by decide) ?_
      refine J_goto (tgt := 1379) dL_law_1375 (by decide) ?_
      refine J_lv [0, 1, 2, 3] rfl ?_
      exact jn15 (1 : Int32) (bd_w (l := 0) (h := 1) (bd_c (v := 1) (lo := 1) (hi := 1) (by decide)) (by decide))
  refine J_if_eq (tgt := 1345) dL_law_1338 (by decide) (fun c1 => ?_) (fun c1 => ?_)
  · refine J_iconst (v := 0) dL_law_1345 (by decide) ?_
    refine J_lv [3, 2, 1, 0] rfl ?_
    exact jn3 (0 : Int32) (bd_w (l := 0) (h := 1) (bd_c (v := 0) (lo := 0) (hi := 0) (by decide)) (by decide))
  · refine J_iconst (v := 1) dL_law_1341 (by decide) ?_
    refine J_goto (tgt := 1346) dL_law_1342 (by decide) ?_
    refine J_lv [3, 2, 1, 0] rfl ?_
    exact jn3 (1 : Int32) (bd_w (l := 0) (h := 1) (bd_c (v := 1) (lo := 1) (hi := 1) (by decide)) (by decide))
set_option maxHeartbeats 4000000 in
set_option maxRecDepth 100000 in
theorem law_24 {x : JX} {bb L k n : Nat} {xs : Nat → Int32} {i : Int32} {u : Nat → Nat → Int32} {g : Nat → Nat → Int64} {ex : List MC} (hq : LQ x bb) (hcon : x.2.2.2.2.2.2.2.2.2.2.2.2.2.2.1 0 = some (L, xs)) (hi : LI i L) (hI : INX u) (hk : k = 182 + ex.length) (hb : k + 1 ≤ 600000 ∧ n + 1 ≤ 7302250) (hd : 11 ≤ 11) (K : ∀ (u2 : Nat → Nat → Int32) (g2 : Nat → Nat → Int64) (ex2 : List MC) (k2 n2 : Nat), INX u2 → k2 = 182 + ex2.length → k2 ≤ k + 1 → n2 ≤ n + 1 → J x yL_law code 4 ret 11 600000 7302250 0 2255 [(3, .int i), (2, .ref 162), (1, .ref 0), (0, .retAddr 0)] [] (Wd u2 g2 ex2) k2 n2) : J x yL_law code 4 ret 11 600000 7302250 0 1386 [(3, .int i), (2, .ref 162), (1, .ref 0), (0, .retAddr 0)] [] (Wd u g ex) k n := by
  obtain ⟨hI, hR⟩ := hI
  obtain ⟨H0, H1, H2, H3, H4, H5, H6, f0, f1, f2, f3⟩ := hI
  have X0 := H0
  obtain ⟨a0_0, a0_1, a0_2, a0_3, a0_4, a0_5, a0_6, a0_7, a0_8, a0_9, a0_10, a0_11, a0_12, a0_13, a0_14, a0_15⟩ := X0
  have X1 := H1
  obtain ⟨a1_0, a1_1, a1_2, a1_3, a1_4, a1_5, a1_6, a1_7, a1_8, a1_9, a1_10, a1_11, a1_12, a1_13, a1_14, a1_15, a1_16, a1_17, a1_18, a1_19, a1_20, a1_21, a1_22, a1_23, a1_24, a1_25, a1_26, a1_27, a1_28, a1_29, a1_30, a1_31, a1_32, a1_33, a1_34, a1_35, a1_36, a1_37, a1_38, a1_39, a1_40, a1_41, a1_42, a1_43, a1_44, a1_45, a1_46, a1_47⟩ := X1
  have X2 := H2
  obtain ⟨a2_0, a2_1, a2_2, a2_3, a2_4, a2_5⟩ := X2
  have X3 := H3
  obtain ⟨a3_0, a3_1, a3_2, a3_3, a3_4, a3_5, a3_6, a3_7, a3_8, a3_9, a3_10, a3_11, a3_12, a3_13, a3_14, a3_15, a3_16⟩ := X3
  have X4 := H4
  obtain ⟨a4_0, a4_1, a4_2, a4_3, a4_4, a4_5, a4_6⟩ := X4
  have X5 := H5
  obtain ⟨a5_0, a5_1⟩ := X5
  have X6 := H6
  obtain ⟨a6_0, a6_1, a6_2, a6_3, a6_4⟩ := X6
  refine J_aload_n (i := 1) (j := 2) dL_law_1386 rfl rfl ?_
  refine J_aload_nC (i := 0) (j := 3) dL_law_1387 rfl rfl ?_
  refine J_iload_n (i := 3) (j := 0) dL_law_1388 rfl rfl ?_
  refine J_iconst (v := 1) dL_law_1389 (by decide) ?_
  refine J_iadd dL_law_1390 ?_
  refine J_cald (z := L) (f := xs) dL_law_1391 hcon (li_in hi (by decide)) ?_
  refine J_aload_nC (i := 0) (j := 3) dL_law_1392 rfl rfl ?_
  refine J_iload_n (i := 3) (j := 0) dL_law_1393 rfl rfl ?_
  refine J_iconst (v := 2) dL_law_1394 (by decide) ?_
  refine J_iadd dL_law_1395 ?_
  refine J_cald (z := L) (f := xs) dL_law_1396 hcon (li_in hi (by decide)) ?_
  refine J_callV (As := [.int (xs (i + 1).toNatClampNeg), .int (xs (i + 2).toNatClampNeg)]) (rest := []) dL_law_1397 (c_P_now (d := 5) (u := u) (g := g) (ex := ex) (hill := (xs (i + 1).toNatClampNeg)) (plan := (xs (i + 2).toNatClampNeg))  (by decide) a0_0 a0_5 a3_0 a3_1 a0_1 a0_2 a0_3 a0_4 a0_6 a0_7 a0_8 a3_2 a3_3 a0_9 a0_10 a0_11 a0_12 a0_13 a3_4) hq.n k1090 k1091 k1092 wc_0 rfl rfl k87 k1093 np_X10_now (Nat.le_trans (by decide) hd) (by decide) (lk1 hb) (ln1 hb) (wlk hk) rfl (Nat.le_of_ble_eq_true rfl) (fun r_ h_ p1 => ?_)
  obtain ⟨v2, u3, rfl, rfl, h4, h5, h6, fr7, fc8, fc9⟩ := p1
  refine J_pop dL_law_1400 rfl ?_
  refine J_aload_n (i := 2) (j := 1) dL_law_1401 rfl rfl ?_
  refine J_aload_nC (i := 0) (j := 3) dL_law_1402 rfl rfl ?_
  refine J_iload_n (i := 3) (j := 0) dL_law_1403 rfl rfl ?_
  refine J_iconst (v := 1) dL_law_1404 (by decide) ?_
  refine J_iadd dL_law_1405 ?_
  refine J_cald (z := L) (f := xs) dL_law_1406 hcon (li_in hi (by decide)) ?_
  refine J_aload_nC (i := 0) (j := 3) dL_law_1407 rfl rfl ?_
  refine J_iload_n (i := 3) (j := 0) dL_law_1408 rfl rfl ?_
  refine J_iconst (v := 2) dL_law_1409 (by decide) ?_
  refine J_iadd dL_law_1410 ?_
  refine J_cald (z := L) (f := xs) dL_law_1411 hcon (li_in hi (by decide)) ?_
  refine J_callV (As := [.int (xs (i + 1).toNatClampNeg), .int (xs (i + 2).toNatClampNeg)]) (rest := []) dL_law_1412 (c_M_now (d := 3) (u := u3) (g := g) (ex := ex) (hill := (xs (i + 1).toNatClampNeg)) (plan := (xs (i + 2).toNatClampNeg))  (by decide) (my_c (fr7 167 rfl) a4_0) (ab_c (fr7 168 rfl) a4_1) (hd_c (fr7 168 rfl) a4_2) (hc_c (fr7 167 rfl) (fr7 168 rfl) a4_3) (pl_c (fr7 169 rfl) a4_4) (n0_c (fr7 172 rfl) a6_0) (dn_c (fr7 172 rfl) a6_1) (bd_r (congrFun (fr7 162 rfl) 22) f0) (bd_r (congrFun (fr7 162 rfl) 31) f1) (ab_c (fr7 177 rfl) a6_2)) hq.n k1710 k1711 k1712 wc_162 rfl rfl k97 k1713 np_X11_now (Nat.le_trans (by decide) hd) (by decide) (lk1 hb) (ln1 hb) (wlk hk) rfl (Nat.le_of_ble_eq_true rfl) (fun r_ h_ p10 => ?_)
  obtain ⟨v11, u12, rfl, rfl, h13, h14, h15, h16, fr17, fc18⟩ := p10
  refine J_pop dL_law_1415 rfl ?_
  refine J_goto (tgt := 2255) dL_law_1416 (by decide) ?_
  exact K u12 g ex k n ⟨⟨(ig0_c (fun c hc => ((fr17 c (nin_rg hc rfl)).trans (fr7 c (nin_rg hc rfl)))) H0), (ig1_c (fun c hc => ((fr17 c (nin_rg hc rfl)).trans (fr7 c (nin_rg hc rfl)))) H1), (ig2_c (fun c hc => ((fr17 c (nin_rg hc rfl)).trans (fr7 c (nin_rg hc rfl)))) H2), ⟨(bd_r (congrFun (fr17 44 rfl) 0) h4), (bd_r (congrFun (fr17 44 rfl) 2) h5), (bd_r ((congrFun (fr17 49 rfl) 0).trans (congrFun (fr7 49 rfl) 0)) a3_2), (ab_c (fr17 45 rfl) h6), (km_c ((fr17 50 rfl).trans (fr7 50 rfl)) ((fr17 52 rfl).trans (fr7 52 rfl)) a3_4), (bd_r ((congrFun (fr17 53 rfl) 0).trans (congrFun (fr7 53 rfl) 0)) a3_5), (bd_r ((congrFun (fr17 53 rfl) 1).trans (congrFun (fr7 53 rfl) 1)) a3_6), (bd_r ((congrFun (fr17 61 rfl) 0).trans (congrFun (fr7 61 rfl) 0)) a3_7), (bd_r ((congrFun (fr17 61 rfl) 2).trans (congrFun (fr7 61 rfl) 2)) a3_8), (ab_c ((fr17 66 rfl).trans (fr7 66 rfl)) a3_9), (bd_r ((congrFun (fr17 70 rfl) 0).trans (congrFun (fr7 70 rfl) 0)) a3_10), (bd_r ((congrFun (fr17 70 rfl) 2).trans (congrFun (fr7 70 rfl) 2)) a3_11), (bd_r ((congrFun (fr17 79 rfl) 0).trans (congrFun (fr7 79 rfl) 0)) a3_12), (bd_r ((congrFun (fr17 79 rfl) 2).trans (congrFun (fr7 79 rfl) 2)) a3_13), (bd_r ((congrFun (fr17 56 rfl) 5).trans (congrFun (fr7 56 rfl) 5)) a3_14), (ab_c ((fr17 77 rfl).trans (fr7 77 rfl)) a3_15), (ab_c ((fr17 76 rfl).trans (fr7 76 rfl)) a3_16)⟩, (ig4_c (fun c hc => ((fr17 c (nin_rg hc rfl)).trans (fr7 c (nin_rg hc rfl)))) H4), (ig5_c (fun c hc => ((fr17 c (nin_rg hc rfl)).trans (fr7 c (nin_rg hc rfl)))) H5), ⟨h15, h14, (ab_c ((fr17 177 rfl).trans (fr7 177 rfl)) a6_2), (ab_c ((fr17 178 rfl).trans (fr7 178 rfl)) a6_3), (ab_c ((fr17 179 rfl).trans (fr7 179 rfl)) a6_4)⟩, h13, h16, (bd_r ((fc18 12 (Nat.ne_of_beq_eq_false rfl) (Nat.ne_of_beq_eq_false rfl) (Nat.ne_of_beq_eq_false rfl) (Nat.ne_of_beq_eq_false rfl) (Nat.ne_of_beq_eq_false rfl) (Nat.ne_of_beq_eq_false rfl) (Nat.ne_of_beq_eq_false rfl) (Nat.ne_of_beq_eq_false rfl) (Nat.ne_of_beq_eq_false rfl) (Nat.ne_of_beq_eq_false rfl)).trans (congrFun (fr7 162 rfl) 12)) f2), (bd_r ((fc18 17 (Nat.ne_of_beq_eq_false rfl) (Nat.ne_of_beq_eq_false rfl) (Nat.ne_of_beq_eq_false rfl) (Nat.ne_of_beq_eq_false rfl) (Nat.ne_of_beq_eq_false rfl) (Nat.ne_of_beq_eq_false rfl) (Nat.ne_of_beq_eq_false rfl) (Nat.ne_of_beq_eq_false rfl) (Nat.ne_of_beq_eq_false rfl) (Nat.ne_of_beq_eq_false rfl)).trans (congrFun (fr7 162 rfl) 17)) f3)⟩, (rly_2 (fun c hc => ((fr17 c (nin_y2 hc rfl)).trans (fr7 c (nin_y2 hc rfl)))) hR)⟩ hk (Nat.le_succ _) (Nat.le_succ _)
set_option maxHeartbeats 4000000 in
set_option maxRecDepth 100000 in
theorem law_25 {x : JX} {bb L k n : Nat} {xs : Nat → Int32} {i : Int32} {u : Nat → Nat → Int32} {g : Nat → Nat → Int64} {ex : List MC} (hq : LQ x bb) (hcon : x.2.2.2.2.2.2.2.2.2.2.2.2.2.2.1 0 = some (L, xs)) (hi : LI i L) (hI : INX u) (hk : k = 182 + ex.length) (hb : k + 1 ≤ 600000 ∧ n + 1 ≤ 7302250) (hd : 11 ≤ 11) (K : ∀ (u2 : Nat → Nat → Int32) (g2 : Nat → Nat → Int64) (ex2 : List MC) (k2 n2 : Nat), INX u2 → k2 = 182 + ex2.length → k2 ≤ k + 1 → n2 ≤ n + 1 → J x yL_law code 4 ret 11 600000 7302250 0 2255 [(3, .int i), (2, .ref 162), (1, .ref 0), (0, .retAddr 0)] [] (Wd u2 g2 ex2) k2 n2) : J x yL_law code 4 ret 11 600000 7302250 0 1419 [(3, .int i), (2, .ref 162), (1, .ref 0), (0, .retAddr 0)] [] (Wd u g ex) k n := by
  obtain ⟨hI, hR⟩ := hI
  obtain ⟨H0, H1, H2, H3, H4, H5, H6, f0, f1, f2, f3⟩ := hI
  have X0 := H0
  obtain ⟨a0_0, a0_1, a0_2, a0_3, a0_4, a0_5, a0_6, a0_7, a0_8, a0_9, a0_10, a0_11, a0_12, a0_13, a0_14, a0_15⟩ := X0
  have X1 := H1
  obtain ⟨a1_0, a1_1, a1_2, a1_3, a1_4, a1_5, a1_6, a1_7, a1_8, a1_9, a1_10, a1_11, a1_12, a1_13, a1_14, a1_15, a1_16, a1_17, a1_18, a1_19, a1_20, a1_21, a1_22, a1_23, a1_24, a1_25, a1_26, a1_27, a1_28, a1_29, a1_30, a1_31, a1_32, a1_33, a1_34, a1_35, a1_36, a1_37, a1_38, a1_39, a1_40, a1_41, a1_42, a1_43, a1_44, a1_45, a1_46, a1_47⟩ := X1
  have X2 := H2
  obtain ⟨a2_0, a2_1, a2_2, a2_3, a2_4, a2_5⟩ := X2
  have X3 := H3
  obtain ⟨a3_0, a3_1, a3_2, a3_3, a3_4, a3_5, a3_6, a3_7, a3_8, a3_9, a3_10, a3_11, a3_12, a3_13, a3_14, a3_15, a3_16⟩ := X3
  have X4 := H4
  obtain ⟨a4_0, a4_1, a4_2, a4_3, a4_4, a4_5, a4_6⟩ := X4
  have X5 := H5
  obtain ⟨a5_0, a5_1⟩ := X5
  have X6 := H6
  obtain ⟨a6_0, a6_1, a6_2, a6_3, a6_4⟩ := X6
  refine J_aload_n (i := 1) (j := 2) dL_law_1419 rfl rfl ?_
  refine J_aload_nC (i := 0) (j := 3) dL_law_1420 rfl rfl ?_
  refine J_iload_n (i := 3) (j := 0) dL_law_1421 rfl rfl ?_
  refine J_iconst (v := 1) dL_law_1422 (by decide) ?_
  refine J_iadd dL_law_1423 ?_
  refine J_cald (z := L) (f := xs) dL_law_1424 hcon (li_in hi (by decide)) ?_
  refine J_aload_nC (i := 0) (j := 3) dL_law_1425 rfl rfl ?_
  refine J_iload_n (i := 3) (j := 0) dL_law_1426 rfl rfl ?_
  refine J_iconst (v := 2) dL_law_1427 (by decide) ?_
  refine J_iadd dL_law_1428 ?_
  refine J_cald (z := L) (f := xs) dL_law_1429 hcon (li_in hi (by decide)) ?_
  refine J_aload_nC (i := 0) (j := 3) dL_law_1430 rfl rfl ?_
  refine J_iload_n (i := 3) (j := 0) dL_law_1431 rfl rfl ?_
  refine J_iconst (v := 3) dL_law_1432 (by decide) ?_
  refine J_iadd dL_law_1433 ?_
  refine J_cald (z := L) (f := xs) dL_law_1434 hcon (li_in hi (by decide)) ?_
  refine J_aload_nC (i := 0) (j := 3) dL_law_1435 rfl rfl ?_
  refine J_iload_n (i := 3) (j := 0) dL_law_1436 rfl rfl ?_
  refine J_iconst (v := 4) dL_law_1437 (by decide) ?_
  refine J_iadd dL_law_1438 ?_
  refine J_cald (z := L) (f := xs) dL_law_1439 hcon (li_in hi (by decide)) ?_
  refine J_aload_nC (i := 0) (j := 3) dL_law_1440 rfl rfl ?_
  refine J_iload_n (i := 3) (j := 0) dL_law_1441 rfl rfl ?_
  refine J_iconst (v := 5) dL_law_1442 (by decide) ?_
  refine J_iadd dL_law_1443 ?_
  refine J_cald (z := L) (f := xs) dL_law_1444 hcon (li_in hi (by decide)) ?_
  refine J_callVx (As := [.int (xs (i + 1).toNatClampNeg), .int (xs (i + 2).toNatClampNeg), .int (xs (i + 3).toNatClampNeg), .int (xs (i + 4).toNatClampNeg), .int (xs (i + 5).toNatClampNeg)]) (rest := []) dL_law_1445 (c_P_years (d := 5) (u := u) (g := g) (ex := ex) (hill := (xs (i + 1).toNatClampNeg)) (plan := (xs (i + 2).toNatClampNeg)) (seed := (xs (i + 3).toNatClampNeg)) (n := (xs (i + 4).toNatClampNeg)) (what := (xs (i + 5).toNatClampNeg))  (by decide) a0_0 a0_5 a3_0 a3_1 a0_1 a0_2 a0_3 a0_4 a0_6 a0_7 a0_8 a3_2 a3_3 a0_9 a0_10 a0_11 a0_12 a0_13 a3_4 a3_5 a3_6) hq.n k1100 k1101 k1102 wc_0 rfl rfl k87 k1103 np_X10_years (Nat.le_trans (by decide) hd) (by decide) hb.1 hb.2 (wlk hk) rfl (Nat.le_of_ble_eq_true rfl) (fun r_ h_ p1 k1 hk1 hl1 => ?_)
  obtain ⟨l2, u3, ex2, rfl, rfl, h4, h5, h6, h7, h8, fr9, fc10, fc11, fc12⟩ := p1
  have hk2 : k1 = 182 + ex2.length := hk1.trans Wd_len
  refine J_pop2_2 dL_law_1448 rfl ?_
  refine J_aload_n (i := 2) (j := 1) dL_law_1449 rfl rfl ?_
  refine J_aload_nC (i := 0) (j := 3) dL_law_1450 rfl rfl ?_
  refine J_iload_n (i := 3) (j := 0) dL_law_1451 rfl rfl ?_
  refine J_iconst (v := 1) dL_law_1452 (by decide) ?_
  refine J_iadd dL_law_1453 ?_
  refine J_cald (z := L) (f := xs) dL_law_1454 hcon (li_in hi (by decide)) ?_
  refine J_aload_nC (i := 0) (j := 3) dL_law_1455 rfl rfl ?_
  refine J_iload_n (i := 3) (j := 0) dL_law_1456 rfl rfl ?_
  refine J_iconst (v := 2) dL_law_1457 (by decide) ?_
  refine J_iadd dL_law_1458 ?_
  refine J_cald (z := L) (f := xs) dL_law_1459 hcon (li_in hi (by decide)) ?_
  refine J_aload_nC (i := 0) (j := 3) dL_law_1460 rfl rfl ?_
  refine J_iload_n (i := 3) (j := 0) dL_law_1461 rfl rfl ?_
  refine J_iconst (v := 3) dL_law_1462 (by decide) ?_
  refine J_iadd dL_law_1463 ?_
  refine J_cald (z := L) (f := xs) dL_law_1464 hcon (li_in hi (by decide)) ?_
  refine J_aload_nC (i := 0) (j := 3) dL_law_1465 rfl rfl ?_
  refine J_iload_n (i := 3) (j := 0) dL_law_1466 rfl rfl ?_
  refine J_iconst (v := 4) dL_law_1467 (by decide) ?_
  refine J_iadd dL_law_1468 ?_
  refine J_cald (z := L) (f := xs) dL_law_1469 hcon (li_in hi (by decide)) ?_
  refine J_aload_nC (i := 0) (j := 3) dL_law_1470 rfl rfl ?_
  refine J_iload_n (i := 3) (j := 0) dL_law_1471 rfl rfl ?_
  refine J_iconst (v := 5) dL_law_1472 (by decide) ?_
  refine J_iadd dL_law_1473 ?_
  refine J_cald (z := L) (f := xs) dL_law_1474 hcon (li_in hi (by decide)) ?_
  refine J_callV (As := [.int (xs (i + 1).toNatClampNeg), .int (xs (i + 2).toNatClampNeg), .int (xs (i + 3).toNatClampNeg), .int (xs (i + 4).toNatClampNeg), .int (xs (i + 5).toNatClampNeg)]) (rest := []) dL_law_1475 (c_M_years (d := 5) (u := u3) (g := g) (ex := ex2) (hill := (xs (i + 1).toNatClampNeg)) (plan := (xs (i + 2).toNatClampNeg)) (seed := (xs (i + 3).toNatClampNeg)) (n := (xs (i + 4).toNatClampNeg)) (what := (xs (i + 5).toNatClampNeg))  (by decide) (my_c (fr9 167 rfl) a4_0) (ab_c (fr9 168 rfl) a4_1) (hd_c (fr9 168 rfl) a4_2) (hc_c (fr9 167 rfl) (fr9 168 rfl) a4_3) (pl_c (fr9 169 rfl) a4_4) (n0_c (fr9 172 rfl) a6_0) (dn_c (fr9 172 rfl) a6_1) (bd_r (congrFun (fr9 162 rfl) 22) f0) (bd_r (congrFun (fr9 162 rfl) 31) f1) (ab_c (fr9 177 rfl) a6_2)) hq.n k1714 k1715 k1716 wc_162 rfl rfl k97 k1717 np_X11_years (Nat.le_trans (by decide) hd) (by decide) (lx1 hb hl1) (lx2 hb) (wlk hk2) rfl (Nat.le_of_ble_eq_true rfl) (fun r_ h_ p13 => ?_)
  obtain ⟨l14, u15, rfl, rfl, h16, h17, h18, h19, fr20, fc21⟩ := p13
  refine J_pop2_2 dL_law_1478 rfl ?_
  refine J_goto (tgt := 2255) dL_law_1479 (by decide) ?_
  exact K u15 g ex2 k1 (n + 1) ⟨⟨(ig0_c (fun c hc => ((fr20 c (nin_rg hc rfl)).trans (fr9 c (nin_rg hc rfl)))) H0), (ig1_c (fun c hc => ((fr20 c (nin_rg hc rfl)).trans (fr9 c (nin_rg hc rfl)))) H1), (ig2_c (fun c hc => ((fr20 c (nin_rg hc rfl)).trans (fr9 c (nin_rg hc rfl)))) H2), ⟨(bd_r (congrFun (fr20 44 rfl) 0) h4), (bd_r (congrFun (fr20 44 rfl) 2) h5), (bd_r ((congrFun (fr20 49 rfl) 0).trans (congrFun (fr9 49 rfl) 0)) a3_2), (ab_c (fr20 45 rfl) h6), (km_c ((fr20 50 rfl).trans (fr9 50 rfl)) ((fr20 52 rfl).trans (fr9 52 rfl)) a3_4), (bd_r (congrFun (fr20 53 rfl) 0) h7), (bd_r (congrFun (fr20 53 rfl) 1) h8), (bd_r ((congrFun (fr20 61 rfl) 0).trans (congrFun (fr9 61 rfl) 0)) a3_7), (bd_r ((congrFun (fr20 61 rfl) 2).trans (congrFun (fr9 61 rfl) 2)) a3_8), (ab_c ((fr20 66 rfl).trans (fr9 66 rfl)) a3_9), (bd_r ((congrFun (fr20 70 rfl) 0).trans (congrFun (fr9 70 rfl) 0)) a3_10), (bd_r ((congrFun (fr20 70 rfl) 2).trans (congrFun (fr9 70 rfl) 2)) a3_11), (bd_r ((congrFun (fr20 79 rfl) 0).trans (congrFun (fr9 79 rfl) 0)) a3_12), (bd_r ((congrFun (fr20 79 rfl) 2).trans (congrFun (fr9 79 rfl) 2)) a3_13), (bd_r ((congrFun (fr20 56 rfl) 5).trans (congrFun (fr9 56 rfl) 5)) a3_14), (ab_c ((fr20 77 rfl).trans (fr9 77 rfl)) a3_15), (ab_c ((fr20 76 rfl).trans (fr9 76 rfl)) a3_16)⟩, (ig4_c (fun c hc => ((fr20 c (nin_rg hc rfl)).trans (fr9 c (nin_rg hc rfl)))) H4), (ig5_c (fun c hc => ((fr20 c (nin_rg hc rfl)).trans (fr9 c (nin_rg hc rfl)))) H5), ⟨h18, h17, (ab_c ((fr20 177 rfl).trans (fr9 177 rfl)) a6_2), (ab_c ((fr20 178 rfl).trans (fr9 178 rfl)) a6_3), (ab_c ((fr20 179 rfl).trans (fr9 179 rfl)) a6_4)⟩, h16, h19, (bd_r ((fc21 12 (Nat.ne_of_beq_eq_false rfl) (Nat.ne_of_beq_eq_false rfl) (Nat.ne_of_beq_eq_false rfl) (Nat.ne_of_beq_eq_false rfl) (Nat.ne_of_beq_eq_false rfl) (Nat.ne_of_beq_eq_false rfl) (Nat.ne_of_beq_eq_false rfl) (Nat.ne_of_beq_eq_false rfl) (Nat.ne_of_beq_eq_false rfl) (Nat.ne_of_beq_eq_false rfl) (Nat.ne_of_beq_eq_false rfl)).trans (congrFun (fr9 162 rfl) 12)) f2), (bd_r ((fc21 17 (Nat.ne_of_beq_eq_false rfl) (Nat.ne_of_beq_eq_false rfl) (Nat.ne_of_beq_eq_false rfl) (Nat.ne_of_beq_eq_false rfl) (Nat.ne_of_beq_eq_false rfl) (Nat.ne_of_beq_eq_false rfl) (Nat.ne_of_beq_eq_false rfl) (Nat.ne_of_beq_eq_false rfl) (Nat.ne_of_beq_eq_false rfl) (Nat.ne_of_beq_eq_false rfl) (Nat.ne_of_beq_eq_false rfl)).trans (congrFun (fr9 162 rfl) 17)) f3)⟩, (rly_2 (fun c hc => ((fr20 c (nin_y2 hc rfl)).trans (fr9 c (nin_y2 hc rfl)))) hR)⟩ hk2 hl1 (Nat.le_refl _)
set_option maxHeartbeats 4000000 in
set_option maxRecDepth 100000 in
theorem law_26 {x : JX} {bb L k n : Nat} {xs : Nat → Int32} {i : Int32} {u : Nat → Nat → Int32} {g : Nat → Nat → Int64} {ex : List MC} (hq : LQ x bb) (hcon : x.2.2.2.2.2.2.2.2.2.2.2.2.2.2.1 0 = some (L, xs)) (hi : LI i L) (hI : INX u) (hk : k = 182 + ex.length) (hb : k + 1 ≤ 600000 ∧ n + 1 ≤ 7302250) (hd : 11 ≤ 11) (K : ∀ (u2 : Nat → Nat → Int32) (g2 : Nat → Nat → Int64) (ex2 : List MC) (k2 n2 : Nat), INX u2 → k2 = 182 + ex2.length → k2 ≤ k + 1 → n2 ≤ n + 1 → J x yL_law code 4 ret 11 600000 7302250 0 2255 [(3, .int i), (2, .ref 162), (1, .ref 0), (0, .retAddr 0)] [] (Wd u2 g2 ex2) k2 n2) : J x yL_law code 4 ret 11 600000 7302250 0 1482 [(3, .int i), (2, .ref 162), (1, .ref 0), (0, .retAddr 0)] [] (Wd u g ex) k n := by
  obtain ⟨hI, hR⟩ := hI
  obtain ⟨H0, H1, H2, H3, H4, H5, H6, f0, f1, f2, f3⟩ := hI
  have X0 := H0
  obtain ⟨a0_0, a0_1, a0_2, a0_3, a0_4, a0_5, a0_6, a0_7, a0_8, a0_9, a0_10, a0_11, a0_12, a0_13, a0_14, a0_15⟩ := X0
  have X1 := H1
  obtain ⟨a1_0, a1_1, a1_2, a1_3, a1_4, a1_5, a1_6, a1_7, a1_8, a1_9, a1_10, a1_11, a1_12, a1_13, a1_14, a1_15, a1_16, a1_17, a1_18, a1_19, a1_20, a1_21, a1_22, a1_23, a1_24, a1_25, a1_26, a1_27, a1_28, a1_29, a1_30, a1_31, a1_32, a1_33, a1_34, a1_35, a1_36, a1_37, a1_38, a1_39, a1_40, a1_41, a1_42, a1_43, a1_44, a1_45, a1_46, a1_47⟩ := X1
  have X2 := H2
  obtain ⟨a2_0, a2_1, a2_2, a2_3, a2_4, a2_5⟩ := X2
  have X3 := H3
  obtain ⟨a3_0, a3_1, a3_2, a3_3, a3_4, a3_5, a3_6, a3_7, a3_8, a3_9, a3_10, a3_11, a3_12, a3_13, a3_14, a3_15, a3_16⟩ := X3
  have X4 := H4
  obtain ⟨a4_0, a4_1, a4_2, a4_3, a4_4, a4_5, a4_6⟩ := X4
  have X5 := H5
  obtain ⟨a5_0, a5_1⟩ := X5
  have X6 := H6
  obtain ⟨a6_0, a6_1, a6_2, a6_3, a6_4⟩ := X6
  refine J_aload_n (i := 1) (j := 2) dL_law_1482 rfl rfl ?_
  refine J_aload_nC (i := 0) (j := 3) dL_law_1483 rfl rfl ?_
  refine J_iload_n (i := 3) (j := 0) dL_law_1484 rfl rfl ?_
  refine J_iconst (v := 1) dL_law_1485 (by decide) ?_
  refine J_iadd dL_law_1486 ?_
  refine J_cald (z := L) (f := xs) dL_law_1487 hcon (li_in hi (by decide)) ?_
  refine J_aload_nC (i := 0) (j := 3) dL_law_1488 rfl rfl ?_
  refine J_iload_n (i := 3) (j := 0) dL_law_1489 rfl rfl ?_
  refine J_iconst (v := 2) dL_law_1490 (by decide) ?_
  refine J_iadd dL_law_1491 ?_
  refine J_cald (z := L) (f := xs) dL_law_1492 hcon (li_in hi (by decide)) ?_
  refine J_aload_nC (i := 0) (j := 3) dL_law_1493 rfl rfl ?_
  refine J_iload_n (i := 3) (j := 0) dL_law_1494 rfl rfl ?_
  refine J_iconst (v := 3) dL_law_1495 (by decide) ?_
  refine J_iadd dL_law_1496 ?_
  refine J_cald (z := L) (f := xs) dL_law_1497 hcon (li_in hi (by decide)) ?_
  refine J_callV (As := [.int (xs (i + 1).toNatClampNeg), .int (xs (i + 2).toNatClampNeg), .int (xs (i + 3).toNatClampNeg)]) (rest := []) dL_law_1498 (c_P_spared (d := 5) (u := u) (g := g) (ex := ex) (hill := (xs (i + 1).toNatClampNeg)) (plan := (xs (i + 2).toNatClampNeg)) (rain := (xs (i + 3).toNatClampNeg))  (by decide) a0_0 a0_5 a3_0 a3_1 a0_1 a0_2 a0_3 a0_4 a0_6 a0_7 a0_8 a3_2 a3_3 a0_9 a0_10 a0_11 a0_12 a0_13 a3_4 a3_5 a3_6) hq.n k1136 k1137 k1138 wc_0 rfl rfl k87 k1139 np_X10_spared (Nat.le_trans (by decide) hd) (by decide) (lk1 hb) (ln1 hb) (wlk hk) rfl (Nat.le_of_ble_eq_true rfl) (fun r_ h_ p1 => ?_)
  obtain ⟨v2, u3, rfl, rfl, h4, h5, h6, h7, h8, fr9, fc10, fc11, fc12⟩ := p1
  refine J_pop dL_law_1501 rfl ?_
  refine J_aload_n (i := 2) (j := 1) dL_law_1502 rfl rfl ?_
  refine J_aload_nC (i := 0) (j := 3) dL_law_1503 rfl rfl ?_
  refine J_iload_n (i := 3) (j := 0) dL_law_1504 rfl rfl ?_
  refine J_iconst (v := 1) dL_law_1505 (by decide) ?_
  refine J_iadd dL_law_1506 ?_
  refine J_cald (z := L) (f := xs) dL_law_1507 hcon (li_in hi (by decide)) ?_
  refine J_aload_nC (i := 0) (j := 3) dL_law_1508 rfl rfl ?_
  refine J_iload_n (i := 3) (j := 0) dL_law_1509 rfl rfl ?_
  refine J_iconst (v := 2) dL_law_1510 (by decide) ?_
  refine J_iadd dL_law_1511 ?_
  refine J_cald (z := L) (f := xs) dL_law_1512 hcon (li_in hi (by decide)) ?_
  refine J_aload_nC (i := 0) (j := 3) dL_law_1513 rfl rfl ?_
  refine J_iload_n (i := 3) (j := 0) dL_law_1514 rfl rfl ?_
  refine J_iconst (v := 3) dL_law_1515 (by decide) ?_
  refine J_iadd dL_law_1516 ?_
  refine J_cald (z := L) (f := xs) dL_law_1517 hcon (li_in hi (by decide)) ?_
  refine J_callV (As := [.int (xs (i + 1).toNatClampNeg), .int (xs (i + 2).toNatClampNeg), .int (xs (i + 3).toNatClampNeg)]) (rest := []) dL_law_1518 (c_M_spared (d := 4) (u := u3) (g := g) (ex := ex) (hill := (xs (i + 1).toNatClampNeg)) (plan := (xs (i + 2).toNatClampNeg)) (rain := (xs (i + 3).toNatClampNeg))  (by decide) (my_c (fr9 167 rfl) a4_0) (ab_c (fr9 168 rfl) a4_1) (hd_c (fr9 168 rfl) a4_2) (hc_c (fr9 167 rfl) (fr9 168 rfl) a4_3) (pl_c (fr9 169 rfl) a4_4) (n0_c (fr9 172 rfl) a6_0) (dn_c (fr9 172 rfl) a6_1) (bd_r (congrFun (fr9 162 rfl) 22) f0) (bd_r (congrFun (fr9 162 rfl) 31) f1) (ab_c (fr9 177 rfl) a6_2)) hq.n k1727 k1728 k1729 wc_162 rfl rfl k97 k1730 np_X11_spared (Nat.le_trans (by decide) hd) (by decide) (lk1 hb) (ln1 hb) (wlk hk) rfl (Nat.le_of_ble_eq_true rfl) (fun r_ h_ p13 => ?_)
  obtain ⟨v14, u15, rfl, rfl, h16, h17, h18, h19, fr20, fc21⟩ := p13
  refine J_pop dL_law_1521 rfl ?_
  refine J_goto (tgt := 2255) dL_law_1522 (by decide) ?_
  exact K u15 g ex k n ⟨⟨(ig0_c (fun c hc => ((fr20 c (nin_rg hc rfl)).trans (fr9 c (nin_rg hc rfl)))) H0), (ig1_c (fun c hc => ((fr20 c (nin_rg hc rfl)).trans (fr9 c (nin_rg hc rfl)))) H1), (ig2_c (fun c hc => ((fr20 c (nin_rg hc rfl)).trans (fr9 c (nin_rg hc rfl)))) H2), ⟨(bd_r (congrFun (fr20 44 rfl) 0) h4), (bd_r (congrFun (fr20 44 rfl) 2) h5), (bd_r ((congrFun (fr20 49 rfl) 0).trans (congrFun (fr9 49 rfl) 0)) a3_2), (ab_c (fr20 45 rfl) h6), (km_c ((fr20 50 rfl).trans (fr9 50 rfl)) ((fr20 52 rfl).trans (fr9 52 rfl)) a3_4), (bd_r (congrFun (fr20 53 rfl) 0) h7), (bd_r (congrFun (fr20 53 rfl) 1) h8), (bd_r ((congrFun (fr20 61 rfl) 0).trans (congrFun (fr9 61 rfl) 0)) a3_7), (bd_r ((congrFun (fr20 61 rfl) 2).trans (congrFun (fr9 61 rfl) 2)) a3_8), (ab_c ((fr20 66 rfl).trans (fr9 66 rfl)) a3_9), (bd_r ((congrFun (fr20 70 rfl) 0).trans (congrFun (fr9 70 rfl) 0)) a3_10), (bd_r ((congrFun (fr20 70 rfl) 2).trans (congrFun (fr9 70 rfl) 2)) a3_11), (bd_r ((congrFun (fr20 79 rfl) 0).trans (congrFun (fr9 79 rfl) 0)) a3_12), (bd_r ((congrFun (fr20 79 rfl) 2).trans (congrFun (fr9 79 rfl) 2)) a3_13), (bd_r ((congrFun (fr20 56 rfl) 5).trans (congrFun (fr9 56 rfl) 5)) a3_14), (ab_c ((fr20 77 rfl).trans (fr9 77 rfl)) a3_15), (ab_c ((fr20 76 rfl).trans (fr9 76 rfl)) a3_16)⟩, (ig4_c (fun c hc => ((fr20 c (nin_rg hc rfl)).trans (fr9 c (nin_rg hc rfl)))) H4), (ig5_c (fun c hc => ((fr20 c (nin_rg hc rfl)).trans (fr9 c (nin_rg hc rfl)))) H5), ⟨h18, h17, (ab_c ((fr20 177 rfl).trans (fr9 177 rfl)) a6_2), (ab_c ((fr20 178 rfl).trans (fr9 178 rfl)) a6_3), (ab_c ((fr20 179 rfl).trans (fr9 179 rfl)) a6_4)⟩, h16, h19, (bd_r ((fc21 12 (Nat.ne_of_beq_eq_false rfl) (Nat.ne_of_beq_eq_false rfl) (Nat.ne_of_beq_eq_false rfl) (Nat.ne_of_beq_eq_false rfl) (Nat.ne_of_beq_eq_false rfl) (Nat.ne_of_beq_eq_false rfl) (Nat.ne_of_beq_eq_false rfl) (Nat.ne_of_beq_eq_false rfl) (Nat.ne_of_beq_eq_false rfl) (Nat.ne_of_beq_eq_false rfl)).trans (congrFun (fr9 162 rfl) 12)) f2), (bd_r ((fc21 17 (Nat.ne_of_beq_eq_false rfl) (Nat.ne_of_beq_eq_false rfl) (Nat.ne_of_beq_eq_false rfl) (Nat.ne_of_beq_eq_false rfl) (Nat.ne_of_beq_eq_false rfl) (Nat.ne_of_beq_eq_false rfl) (Nat.ne_of_beq_eq_false rfl) (Nat.ne_of_beq_eq_false rfl) (Nat.ne_of_beq_eq_false rfl) (Nat.ne_of_beq_eq_false rfl)).trans (congrFun (fr9 162 rfl) 17)) f3)⟩, (rly_2 (fun c hc => ((fr20 c (nin_y2 hc rfl)).trans (fr9 c (nin_y2 hc rfl)))) hR)⟩ hk (Nat.le_succ _) (Nat.le_succ _)
set_option maxHeartbeats 4000000 in
set_option maxRecDepth 100000 in
theorem law_27 {x : JX} {bb L k n : Nat} {xs : Nat → Int32} {i : Int32} {u : Nat → Nat → Int32} {g : Nat → Nat → Int64} {ex : List MC} (hq : LQ x bb) (hcon : x.2.2.2.2.2.2.2.2.2.2.2.2.2.2.1 0 = some (L, xs)) (hi : LI i L) (hI : INX u) (hk : k = 182 + ex.length) (hb : k + 1 ≤ 600000 ∧ n + 1 ≤ 7302250) (hd : 11 ≤ 11) (K : ∀ (u2 : Nat → Nat → Int32) (g2 : Nat → Nat → Int64) (ex2 : List MC) (k2 n2 : Nat), INX u2 → k2 = 182 + ex2.length → k2 ≤ k + 1 → n2 ≤ n + 1 → J x yL_law code 4 ret 11 600000 7302250 0 2255 [(3, .int i), (2, .ref 162), (1, .ref 0), (0, .retAddr 0)] [] (Wd u2 g2 ex2) k2 n2) : J x yL_law code 4 ret 11 600000 7302250 0 1525 [(3, .int i), (2, .ref 162), (1, .ref 0), (0, .retAddr 0)] [] (Wd u g ex) k n := by
  obtain ⟨hI, hR⟩ := hI
  obtain ⟨H0, H1, H2, H3, H4, H5, H6, f0, f1, f2, f3⟩ := hI
  have X0 := H0
  obtain ⟨a0_0, a0_1, a0_2, a0_3, a0_4, a0_5, a0_6, a0_7, a0_8, a0_9, a0_10, a0_11, a0_12, a0_13, a0_14, a0_15⟩ := X0
  have X1 := H1
  obtain ⟨a1_0, a1_1, a1_2, a1_3, a1_4, a1_5, a1_6, a1_7, a1_8, a1_9, a1_10, a1_11, a1_12, a1_13, a1_14, a1_15, a1_16, a1_17, a1_18, a1_19, a1_20, a1_21, a1_22, a1_23, a1_24, a1_25, a1_26, a1_27, a1_28, a1_29, a1_30, a1_31, a1_32, a1_33, a1_34, a1_35, a1_36, a1_37, a1_38, a1_39, a1_40, a1_41, a1_42, a1_43, a1_44, a1_45, a1_46, a1_47⟩ := X1
  have X2 := H2
  obtain ⟨a2_0, a2_1, a2_2, a2_3, a2_4, a2_5⟩ := X2
  have X3 := H3
  obtain ⟨a3_0, a3_1, a3_2, a3_3, a3_4, a3_5, a3_6, a3_7, a3_8, a3_9, a3_10, a3_11, a3_12, a3_13, a3_14, a3_15, a3_16⟩ := X3
  have X4 := H4
  obtain ⟨a4_0, a4_1, a4_2, a4_3, a4_4, a4_5, a4_6⟩ := X4
  have X5 := H5
  obtain ⟨a5_0, a5_1⟩ := X5
  have X6 := H6
  obtain ⟨a6_0, a6_1, a6_2, a6_3, a6_4⟩ := X6
  refine J_aload_n (i := 1) (j := 2) dL_law_1525 rfl rfl ?_
  refine J_aload_nC (i := 0) (j := 3) dL_law_1526 rfl rfl ?_
  refine J_iload_n (i := 3) (j := 0) dL_law_1527 rfl rfl ?_
  refine J_iconst (v := 1) dL_law_1528 (by decide) ?_
  refine J_iadd dL_law_1529 ?_
  refine J_cald (z := L) (f := xs) dL_law_1530 hcon (li_in hi (by decide)) ?_
  refine J_aload_nC (i := 0) (j := 3) dL_law_1531 rfl rfl ?_
  refine J_iload_n (i := 3) (j := 0) dL_law_1532 rfl rfl ?_
  refine J_iconst (v := 2) dL_law_1533 (by decide) ?_
  refine J_iadd dL_law_1534 ?_
  refine J_cald (z := L) (f := xs) dL_law_1535 hcon (li_in hi (by decide)) ?_
  refine J_callV (As := [.int (xs (i + 1).toNatClampNeg), .int (xs (i + 2).toNatClampNeg)]) (rest := []) dL_law_1536 (c_P_deep (d := 6) (u := u) (g := g) (ex := ex) (hill := (xs (i + 1).toNatClampNeg)) (plan := (xs (i + 2).toNatClampNeg))  (by decide) a0_0 a0_5 a3_0 a3_1 a0_1 a0_2 a0_3 a0_4 a0_6 a0_7 a0_8 a3_2 a3_3 a0_9 a0_10 a0_11 a0_12 a0_13 a3_4 a3_7 a3_8 a3_9) hq.n k1140 k1141 k1142 wc_0 rfl rfl k87 k1143 np_X10_deep (Nat.le_trans (by decide) hd) (by decide) (lk1 hb) (ln1 hb) (wlk hk) rfl (Nat.le_of_ble_eq_true rfl) (fun r_ h_ p1 => ?_)
  obtain ⟨v2, u3, g4, rfl, rfl, h5, h6, h7, h8, h9, h10, fr11, fc12, fc13, fc14, fc15⟩ := p1
  refine J_pop dL_law_1539 rfl ?_
  refine J_aload_n (i := 2) (j := 1) dL_law_1540 rfl rfl ?_
  refine J_aload_nC (i := 0) (j := 3) dL_law_1541 rfl rfl ?_
  refine J_iload_n (i := 3) (j := 0) dL_law_1542 rfl rfl ?_
  refine J_iconst (v := 1) dL_law_1543 (by decide) ?_
  refine J_iadd dL_law_1544 ?_
  refine J_cald (z := L) (f := xs) dL_law_1545 hcon (li_in hi (by decide)) ?_
  refine J_aload_nC (i := 0) (j := 3) dL_law_1546 rfl rfl ?_
  refine J_iload_n (i := 3) (j := 0) dL_law_1547 rfl rfl ?_
  refine J_iconst (v := 2) dL_law_1548 (by decide) ?_
  refine J_iadd dL_law_1549 ?_
  refine J_cald (z := L) (f := xs) dL_law_1550 hcon (li_in hi (by decide)) ?_
  refine J_callV (As := [.int (xs (i + 1).toNatClampNeg), .int (xs (i + 2).toNatClampNeg)]) (rest := []) dL_law_1551 (c_M_deep (d := 4) (u := u3) (g := g4) (ex := ex) (hill := (xs (i + 1).toNatClampNeg)) (plan := (xs (i + 2).toNatClampNeg))  (by decide) (my_c (fr11 167 rfl) a4_0) (ab_c (fr11 168 rfl) a4_1) (hd_c (fr11 168 rfl) a4_2) (hc_c (fr11 167 rfl) (fr11 168 rfl) a4_3) (pl_c (fr11 169 rfl) a4_4) (n0_c (fr11 172 rfl) a6_0) (dn_c (fr11 172 rfl) a6_1) (bd_r (congrFun (fr11 162 rfl) 22) f0) (bd_r (congrFun (fr11 162 rfl) 31) f1) (ab_c (fr11 177 rfl) a6_2)) hq.n k1731 k1732 k1733 wc_162 rfl rfl k97 k1734 np_X11_deep (Nat.le_trans (by decide) hd) (by decide) (lk1 hb) (ln1 hb) (wlk hk) rfl (Nat.le_of_ble_eq_true rfl) (fun r_ h_ p16 => ?_)
  obtain ⟨v17, u18, rfl, rfl, h19, h20, h21, h22, fr23, fc24⟩ := p16
  refine J_pop dL_law_1554 rfl ?_
  refine J_goto (tgt := 2255) dL_law_1555 (by decide) ?_
  exact K u18 g4 ex k n ⟨⟨(ig0_c (fun c hc => ((fr23 c (nin_rg hc rfl)).trans (fr11 c (nin_rg hc rfl)))) H0), (ig1_c (fun c hc => ((fr23 c (nin_rg hc rfl)).trans (fr11 c (nin_rg hc rfl)))) H1), (ig2_c (fun c hc => ((fr23 c (nin_rg hc rfl)).trans (fr11 c (nin_rg hc rfl)))) H2), ⟨(bd_r (congrFun (fr23 44 rfl) 0) h5), (bd_r (congrFun (fr23 44 rfl) 2) h6), (bd_r ((congrFun (fr23 49 rfl) 0).trans (congrFun (fr11 49 rfl) 0)) a3_2), (ab_c (fr23 45 rfl) h7), (km_c ((fr23 50 rfl).trans (fr11 50 rfl)) ((fr23 52 rfl).trans (fr11 52 rfl)) a3_4), (bd_r ((congrFun (fr23 53 rfl) 0).trans (congrFun (fr11 53 rfl) 0)) a3_5), (bd_r ((congrFun (fr23 53 rfl) 1).trans (congrFun (fr11 53 rfl) 1)) a3_6), (bd_r (congrFun (fr23 61 rfl) 0) h8), (bd_r (congrFun (fr23 61 rfl) 2) h9), (ab_c (fr23 66 rfl) h10), (bd_r ((congrFun (fr23 70 rfl) 0).trans (congrFun (fr11 70 rfl) 0)) a3_10), (bd_r ((congrFun (fr23 70 rfl) 2).trans (congrFun (fr11 70 rfl) 2)) a3_11), (bd_r ((congrFun (fr23 79 rfl) 0).trans (congrFun (fr11 79 rfl) 0)) a3_12), (bd_r ((congrFun (fr23 79 rfl) 2).trans (congrFun (fr11 79 rfl) 2)) a3_13), (bd_r ((congrFun (fr23 56 rfl) 5).trans (congrFun (fr11 56 rfl) 5)) a3_14), (ab_c ((fr23 77 rfl).trans (fr11 77 rfl)) a3_15), (ab_c ((fr23 76 rfl).trans (fr11 76 rfl)) a3_16)⟩, (ig4_c (fun c hc => ((fr23 c (nin_rg hc rfl)).trans (fr11 c (nin_rg hc rfl)))) H4), (ig5_c (fun c hc => ((fr23 c (nin_rg hc rfl)).trans (fr11 c (nin_rg hc rfl)))) H5), ⟨h21, h20, (ab_c ((fr23 177 rfl).trans (fr11 177 rfl)) a6_2), (ab_c ((fr23 178 rfl).trans (fr11 178 rfl)) a6_3), (ab_c ((fr23 179 rfl).trans (fr11 179 rfl)) a6_4)⟩, h19, h22, (bd_r ((fc24 12 (Nat.ne_of_beq_eq_false rfl) (Nat.ne_of_beq_eq_false rfl) (Nat.ne_of_beq_eq_false rfl) (Nat.ne_of_beq_eq_false rfl) (Nat.ne_of_beq_eq_false rfl) (Nat.ne_of_beq_eq_false rfl) (Nat.ne_of_beq_eq_false rfl) (Nat.ne_of_beq_eq_false rfl) (Nat.ne_of_beq_eq_false rfl) (Nat.ne_of_beq_eq_false rfl)).trans (congrFun (fr11 162 rfl) 12)) f2), (bd_r ((fc24 17 (Nat.ne_of_beq_eq_false rfl) (Nat.ne_of_beq_eq_false rfl) (Nat.ne_of_beq_eq_false rfl) (Nat.ne_of_beq_eq_false rfl) (Nat.ne_of_beq_eq_false rfl) (Nat.ne_of_beq_eq_false rfl) (Nat.ne_of_beq_eq_false rfl) (Nat.ne_of_beq_eq_false rfl) (Nat.ne_of_beq_eq_false rfl) (Nat.ne_of_beq_eq_false rfl)).trans (congrFun (fr11 162 rfl) 17)) f3)⟩, (rly_2 (fun c hc => ((fr23 c (nin_y2 hc rfl)).trans (fr11 c (nin_y2 hc rfl)))) hR)⟩ hk (Nat.le_succ _) (Nat.le_succ _)
set_option maxHeartbeats 4000000 in
set_option maxRecDepth 100000 in
theorem law_28 {x : JX} {bb L k n : Nat} {xs : Nat → Int32} {i : Int32} {u : Nat → Nat → Int32} {g : Nat → Nat → Int64} {ex : List MC} (hq : LQ x bb) (hcon : x.2.2.2.2.2.2.2.2.2.2.2.2.2.2.1 0 = some (L, xs)) (hi : LI i L) (hI : INX u) (hk : k = 182 + ex.length) (hb : k + 1 ≤ 600000 ∧ n + 1 ≤ 7302250) (hd : 11 ≤ 11) (K : ∀ (u2 : Nat → Nat → Int32) (g2 : Nat → Nat → Int64) (ex2 : List MC) (k2 n2 : Nat), INX u2 → k2 = 182 + ex2.length → k2 ≤ k + 1 → n2 ≤ n + 1 → J x yL_law code 4 ret 11 600000 7302250 0 2255 [(3, .int i), (2, .ref 162), (1, .ref 0), (0, .retAddr 0)] [] (Wd u2 g2 ex2) k2 n2) : J x yL_law code 4 ret 11 600000 7302250 0 1558 [(3, .int i), (2, .ref 162), (1, .ref 0), (0, .retAddr 0)] [] (Wd u g ex) k n := by
  obtain ⟨hI, hR⟩ := hI
  obtain ⟨H0, H1, H2, H3, H4, H5, H6, f0, f1, f2, f3⟩ := hI
  have X0 := H0
  obtain ⟨a0_0, a0_1, a0_2, a0_3, a0_4, a0_5, a0_6, a0_7, a0_8, a0_9, a0_10, a0_11, a0_12, a0_13, a0_14, a0_15⟩ := X0
  have X1 := H1
  obtain ⟨a1_0, a1_1, a1_2, a1_3, a1_4, a1_5, a1_6, a1_7, a1_8, a1_9, a1_10, a1_11, a1_12, a1_13, a1_14, a1_15, a1_16, a1_17, a1_18, a1_19, a1_20, a1_21, a1_22, a1_23, a1_24, a1_25, a1_26, a1_27, a1_28, a1_29, a1_30, a1_31, a1_32, a1_33, a1_34, a1_35, a1_36, a1_37, a1_38, a1_39, a1_40, a1_41, a1_42, a1_43, a1_44, a1_45, a1_46, a1_47⟩ := X1
  have X2 := H2
  obtain ⟨a2_0, a2_1, a2_2, a2_3, a2_4, a2_5⟩ := X2
  have X3 := H3
  obtain ⟨a3_0, a3_1, a3_2, a3_3, a3_4, a3_5, a3_6, a3_7, a3_8, a3_9, a3_10, a3_11, a3_12, a3_13, a3_14, a3_15, a3_16⟩ := X3
  have X4 := H4
  obtain ⟨a4_0, a4_1, a4_2, a4_3, a4_4, a4_5, a4_6⟩ := X4
  have X5 := H5
  obtain ⟨a5_0, a5_1⟩ := X5
  have X6 := H6
  obtain ⟨a6_0, a6_1, a6_2, a6_3, a6_4⟩ := X6
  refine J_aload_n (i := 1) (j := 2) dL_law_1558 rfl rfl ?_
  refine J_aload_nC (i := 0) (j := 3) dL_law_1559 rfl rfl ?_
  refine J_iload_n (i := 3) (j := 0) dL_law_1560 rfl rfl ?_
  refine J_iconst (v := 1) dL_law_1561 (by decide) ?_
  refine J_iadd dL_law_1562 ?_
  refine J_cald (z := L) (f := xs) dL_law_1563 hcon (li_in hi (by decide)) ?_
  refine J_aload_nC (i := 0) (j := 3) dL_law_1564 rfl rfl ?_
  refine J_iload_n (i := 3) (j := 0) dL_law_1565 rfl rfl ?_
  refine J_iconst (v := 2) dL_law_1566 (by decide) ?_
  refine J_iadd dL_law_1567 ?_
  refine J_cald (z := L) (f := xs) dL_law_1568 hcon (li_in hi (by decide)) ?_
  refine J_callV (As := [.int (xs (i + 1).toNatClampNeg), .int (xs (i + 2).toNatClampNeg)]) (rest := []) dL_law_1569 (c_P_safe (d := 5) (u := u) (g := g) (ex := ex) (hill := (xs (i + 1).toNatClampNeg)) (plan := (xs (i + 2).toNatClampNeg))  (by decide) a0_0 a0_5 a3_0 a3_1 a0_1 a0_2 a0_3 a0_4 a0_6 a0_7 a0_8 a3_2 a3_3 a0_9 a0_10 a0_11 a0_12 a0_13 a3_4 a3_5 a3_6) hq.n k1150 k1151 k1152 wc_0 rfl rfl k87 k1153 np_X10_safe (Nat.le_trans (by decide) hd) (by decide) (lk1 hb) (ln1 hb) (wlk hk) rfl (Nat.le_of_ble_eq_true rfl) (fun r_ h_ p1 => ?_)
  obtain ⟨v2, u3, rfl, rfl, h4, h5, h6, h7, h8, fr9, fc10, fc11, fc12⟩ := p1
  refine J_pop dL_law_1572 rfl ?_
  refine J_aload_n (i := 2) (j := 1) dL_law_1573 rfl rfl ?_
  refine J_aload_nC (i := 0) (j := 3) dL_law_1574 rfl rfl ?_
  refine J_iload_n (i := 3) (j := 0) dL_law_1575 rfl rfl ?_
  refine J_iconst (v := 1) dL_law_1576 (by decide) ?_
  refine J_iadd dL_law_1577 ?_
  refine J_cald (z := L) (f := xs) dL_law_1578 hcon (li_in hi (by decide)) ?_
  refine J_aload_nC (i := 0) (j := 3) dL_law_1579 rfl rfl ?_
  refine J_iload_n (i := 3) (j := 0) dL_law_1580 rfl rfl ?_
  refine J_iconst (v := 2) dL_law_1581 (by decide) ?_
  refine J_iadd dL_law_1582 ?_
  refine J_cald (z := L) (f := xs) dL_law_1583 hcon (li_in hi (by decide)) ?_
  refine J_callV (As := [.int (xs (i + 1).toNatClampNeg), .int (xs (i + 2).toNatClampNeg)]) (rest := []) dL_law_1584 (c_M_safe (d := 4) (u := u3) (g := g) (ex := ex) (hill := (xs (i + 1).toNatClampNeg)) (plan := (xs (i + 2).toNatClampNeg))  (by decide) (my_c (fr9 167 rfl) a4_0) (ab_c (fr9 168 rfl) a4_1) (hd_c (fr9 168 rfl) a4_2) (hc_c (fr9 167 rfl) (fr9 168 rfl) a4_3) (pl_c (fr9 169 rfl) a4_4) (n0_c (fr9 172 rfl) a6_0) (dn_c (fr9 172 rfl) a6_1) (bd_r (congrFun (fr9 162 rfl) 22) f0) (bd_r (congrFun (fr9 162 rfl) 31) f1) (ab_c (fr9 177 rfl) a6_2)) hq.n k1735 k1736 k1737 wc_162 rfl rfl k97 k1738 np_X11_safe (Nat.le_trans (by decide) hd) (by decide) (lk1 hb) (ln1 hb) (wlk hk) rfl (Nat.le_of_ble_eq_true rfl) (fun r_ h_ p13 => ?_)
  obtain ⟨v14, u15, rfl, rfl, h16, h17, h18, h19, fr20, fc21⟩ := p13
  refine J_pop dL_law_1587 rfl ?_
  refine J_goto (tgt := 2255) dL_law_1588 (by decide) ?_
  exact K u15 g ex k n ⟨⟨(ig0_c (fun c hc => ((fr20 c (nin_rg hc rfl)).trans (fr9 c (nin_rg hc rfl)))) H0), (ig1_c (fun c hc => ((fr20 c (nin_rg hc rfl)).trans (fr9 c (nin_rg hc rfl)))) H1), (ig2_c (fun c hc => ((fr20 c (nin_rg hc rfl)).trans (fr9 c (nin_rg hc rfl)))) H2), ⟨(bd_r (congrFun (fr20 44 rfl) 0) h4), (bd_r (congrFun (fr20 44 rfl) 2) h5), (bd_r ((congrFun (fr20 49 rfl) 0).trans (congrFun (fr9 49 rfl) 0)) a3_2), (ab_c (fr20 45 rfl) h6), (km_c ((fr20 50 rfl).trans (fr9 50 rfl)) ((fr20 52 rfl).trans (fr9 52 rfl)) a3_4), (bd_r (congrFun (fr20 53 rfl) 0) h7), (bd_r (congrFun (fr20 53 rfl) 1) h8), (bd_r ((congrFun (fr20 61 rfl) 0).trans (congrFun (fr9 61 rfl) 0)) a3_7), (bd_r ((congrFun (fr20 61 rfl) 2).trans (congrFun (fr9 61 rfl) 2)) a3_8), (ab_c ((fr20 66 rfl).trans (fr9 66 rfl)) a3_9), (bd_r ((congrFun (fr20 70 rfl) 0).trans (congrFun (fr9 70 rfl) 0)) a3_10), (bd_r ((congrFun (fr20 70 rfl) 2).trans (congrFun (fr9 70 rfl) 2)) a3_11), (bd_r ((congrFun (fr20 79 rfl) 0).trans (congrFun (fr9 79 rfl) 0)) a3_12), (bd_r ((congrFun (fr20 79 rfl) 2).trans (congrFun (fr9 79 rfl) 2)) a3_13), (bd_r ((congrFun (fr20 56 rfl) 5).trans (congrFun (fr9 56 rfl) 5)) a3_14), (ab_c ((fr20 77 rfl).trans (fr9 77 rfl)) a3_15), (ab_c ((fr20 76 rfl).trans (fr9 76 rfl)) a3_16)⟩, (ig4_c (fun c hc => ((fr20 c (nin_rg hc rfl)).trans (fr9 c (nin_rg hc rfl)))) H4), (ig5_c (fun c hc => ((fr20 c (nin_rg hc rfl)).trans (fr9 c (nin_rg hc rfl)))) H5), ⟨h18, h17, (ab_c ((fr20 177 rfl).trans (fr9 177 rfl)) a6_2), (ab_c ((fr20 178 rfl).trans (fr9 178 rfl)) a6_3), (ab_c ((fr20 179 rfl).trans (fr9 179 rfl)) a6_4)⟩, h16, h19, (bd_r ((fc21 12 (Nat.ne_of_beq_eq_false rfl) (Nat.ne_of_beq_eq_false rfl) (Nat.ne_of_beq_eq_false rfl) (Nat.ne_of_beq_eq_false rfl) (Nat.ne_of_beq_eq_false rfl) (Nat.ne_of_beq_eq_false rfl) (Nat.ne_of_beq_eq_false rfl) (Nat.ne_of_beq_eq_false rfl) (Nat.ne_of_beq_eq_false rfl) (Nat.ne_of_beq_eq_false rfl)).trans (congrFun (fr9 162 rfl) 12)) f2), (bd_r ((fc21 17 (Nat.ne_of_beq_eq_false rfl) (Nat.ne_of_beq_eq_false rfl) (Nat.ne_of_beq_eq_false rfl) (Nat.ne_of_beq_eq_false rfl) (Nat.ne_of_beq_eq_false rfl) (Nat.ne_of_beq_eq_false rfl) (Nat.ne_of_beq_eq_false rfl) (Nat.ne_of_beq_eq_false rfl) (Nat.ne_of_beq_eq_false rfl) (Nat.ne_of_beq_eq_false rfl)).trans (congrFun (fr9 162 rfl) 17)) f3)⟩, (rly_2 (fun c hc => ((fr20 c (nin_y2 hc rfl)).trans (fr9 c (nin_y2 hc rfl)))) hR)⟩ hk (Nat.le_succ _) (Nat.le_succ _)
set_option maxHeartbeats 4000000 in
set_option maxRecDepth 100000 in
theorem law_29 {x : JX} {bb L k n : Nat} {xs : Nat → Int32} {i : Int32} {u : Nat → Nat → Int32} {g : Nat → Nat → Int64} {ex : List MC} (hq : LQ x bb) (hcon : x.2.2.2.2.2.2.2.2.2.2.2.2.2.2.1 0 = some (L, xs)) (hi : LI i L) (hI : INX u) (hk : k = 182 + ex.length) (hb : k + 1 ≤ 600000 ∧ n + 1 ≤ 7302250) (hd : 11 ≤ 11) (K : ∀ (u2 : Nat → Nat → Int32) (g2 : Nat → Nat → Int64) (ex2 : List MC) (k2 n2 : Nat), INX u2 → k2 = 182 + ex2.length → k2 ≤ k + 1 → n2 ≤ n + 1 → J x yL_law code 4 ret 11 600000 7302250 0 2255 [(3, .int i), (2, .ref 162), (1, .ref 0), (0, .retAddr 0)] [] (Wd u2 g2 ex2) k2 n2) : J x yL_law code 4 ret 11 600000 7302250 0 1591 [(3, .int i), (2, .ref 162), (1, .ref 0), (0, .retAddr 0)] [] (Wd u g ex) k n := by
  obtain ⟨hI, hR⟩ := hI
  obtain ⟨H0, H1, H2, H3, H4, H5, H6, f0, f1, f2, f3⟩ := hI
  have X0 := H0
  obtain ⟨a0_0, a0_1, a0_2, a0_3, a0_4, a0_5, a0_6, a0_7, a0_8, a0_9, a0_10, a0_11, a0_12, a0_13, a0_14, a0_15⟩ := X0
  have X1 := H1
  obtain ⟨a1_0, a1_1, a1_2, a1_3, a1_4, a1_5, a1_6, a1_7, a1_8, a1_9, a1_10, a1_11, a1_12, a1_13, a1_14, a1_15, a1_16, a1_17, a1_18, a1_19, a1_20, a1_21, a1_22, a1_23, a1_24, a1_25, a1_26, a1_27, a1_28, a1_29, a1_30, a1_31, a1_32, a1_33, a1_34, a1_35, a1_36, a1_37, a1_38, a1_39, a1_40, a1_41, a1_42, a1_43, a1_44, a1_45, a1_46, a1_47⟩ := X1
  have X2 := H2
  obtain ⟨a2_0, a2_1, a2_2, a2_3, a2_4, a2_5⟩ := X2
  have X3 := H3
  obtain ⟨a3_0, a3_1, a3_2, a3_3, a3_4, a3_5, a3_6, a3_7, a3_8, a3_9, a3_10, a3_11, a3_12, a3_13, a3_14, a3_15, a3_16⟩ := X3
  have X4 := H4
  obtain ⟨a4_0, a4_1, a4_2, a4_3, a4_4, a4_5, a4_6⟩ := X4
  have X5 := H5
  obtain ⟨a5_0, a5_1⟩ := X5
  have X6 := H6
  obtain ⟨a6_0, a6_1, a6_2, a6_3, a6_4⟩ := X6
  refine J_aload_n (i := 1) (j := 2) dL_law_1591 rfl rfl ?_
  refine J_aload_nC (i := 0) (j := 3) dL_law_1592 rfl rfl ?_
  refine J_iload_n (i := 3) (j := 0) dL_law_1593 rfl rfl ?_
  refine J_iconst (v := 1) dL_law_1594 (by decide) ?_
  refine J_iadd dL_law_1595 ?_
  refine J_cald (z := L) (f := xs) dL_law_1596 hcon (li_in hi (by decide)) ?_
  refine J_aload_nC (i := 0) (j := 3) dL_law_1597 rfl rfl ?_
  refine J_iload_n (i := 3) (j := 0) dL_law_1598 rfl rfl ?_
  refine J_iconst (v := 2) dL_law_1599 (by decide) ?_
  refine J_iadd dL_law_1600 ?_
  refine J_cald (z := L) (f := xs) dL_law_1601 hcon (li_in hi (by decide)) ?_
  refine J_callV (As := [.int (xs (i + 1).toNatClampNeg), .int (xs (i + 2).toNatClampNeg)]) (rest := []) dL_law_1602 (c_P_weighs (d := 5) (u := u) (g := g) (ex := ex) (hill := (xs (i + 1).toNatClampNeg)) (plan := (xs (i + 2).toNatClampNeg))  (by decide) a0_0 a0_5 a3_0 a3_1 a0_1 a0_2 a0_3 a0_4 a0_6 a0_7 a0_8 a3_2 a3_3 a0_9 a0_10 a0_11 a0_12 a0_13 a3_4 a3_7 a3_8 a3_9) hq.n k1154 k1155 k1156 wc_0 rfl rfl k87 k1157 np_X10_weighs (Nat.le_trans (by decide) hd) (by decide) (lk1 hb) (ln1 hb) (wlk hk) rfl (Nat.le_of_ble_eq_true rfl) (fun r_ h_ p1 => ?_)
  obtain ⟨v2, u3, g4, rfl, rfl, h5, h6, h7, h8, h9, h10, fr11, fc12, fc13, fc14, fc15⟩ := p1
  refine J_pop dL_law_1605 rfl ?_
  refine J_aload_n (i := 2) (j := 1) dL_law_1606 rfl rfl ?_
  refine J_aload_nC (i := 0) (j := 3) dL_law_1607 rfl rfl ?_
  refine J_iload_n (i := 3) (j := 0) dL_law_1608 rfl rfl ?_
  refine J_iconst (v := 1) dL_law_1609 (by decide) ?_
  refine J_iadd dL_law_1610 ?_
  refine J_cald (z := L) (f := xs) dL_law_1611 hcon (li_in hi (by decide)) ?_
  refine J_aload_nC (i := 0) (j := 3) dL_law_1612 rfl rfl ?_
  refine J_iload_n (i := 3) (j := 0) dL_law_1613 rfl rfl ?_
  refine J_iconst (v := 2) dL_law_1614 (by decide) ?_
  refine J_iadd dL_law_1615 ?_
  refine J_cald (z := L) (f := xs) dL_law_1616 hcon (li_in hi (by decide)) ?_
  refine J_callV (As := [.int (xs (i + 1).toNatClampNeg), .int (xs (i + 2).toNatClampNeg)]) (rest := []) dL_law_1617 (c_M_weighs (d := 5) (u := u3) (g := g4) (ex := ex) (hill := (xs (i + 1).toNatClampNeg)) (plan := (xs (i + 2).toNatClampNeg))  (by decide) (my_c (fr11 167 rfl) a4_0) (ab_c (fr11 168 rfl) a4_1) (hd_c (fr11 168 rfl) a4_2) (hc_c (fr11 167 rfl) (fr11 168 rfl) a4_3) (pl_c (fr11 169 rfl) a4_4) (n0_c (fr11 172 rfl) a6_0) (dn_c (fr11 172 rfl) a6_1) (bd_r (congrFun (fr11 162 rfl) 22) f0) (bd_r (congrFun (fr11 162 rfl) 31) f1) (ab_c (fr11 177 rfl) a6_2)) hq.n k1739 k1740 k1741 wc_162 rfl rfl k97 k1742 np_X11_weighs (Nat.le_trans (by decide) hd) (by decide) (lk1 hb) (ln1 hb) (wlk hk) rfl (Nat.le_of_ble_eq_true rfl) (fun r_ h_ p16 => ?_)
  obtain ⟨v17, u18, rfl, rfl, h19, h20, h21, h22, fr23, fc24⟩ := p16
  refine J_pop dL_law_1620 rfl ?_
  refine J_goto (tgt := 2255) dL_law_1621 (by decide) ?_
  exact K u18 g4 ex k n ⟨⟨(ig0_c (fun c hc => ((fr23 c (nin_rg hc rfl)).trans (fr11 c (nin_rg hc rfl)))) H0), (ig1_c (fun c hc => ((fr23 c (nin_rg hc rfl)).trans (fr11 c (nin_rg hc rfl)))) H1), (ig2_c (fun c hc => ((fr23 c (nin_rg hc rfl)).trans (fr11 c (nin_rg hc rfl)))) H2), ⟨(bd_r (congrFun (fr23 44 rfl) 0) h5), (bd_r (congrFun (fr23 44 rfl) 2) h6), (bd_r ((congrFun (fr23 49 rfl) 0).trans (congrFun (fr11 49 rfl) 0)) a3_2), (ab_c (fr23 45 rfl) h7), (km_c ((fr23 50 rfl).trans (fr11 50 rfl)) ((fr23 52 rfl).trans (fr11 52 rfl)) a3_4), (bd_r ((congrFun (fr23 53 rfl) 0).trans (congrFun (fr11 53 rfl) 0)) a3_5), (bd_r ((congrFun (fr23 53 rfl) 1).trans (congrFun (fr11 53 rfl) 1)) a3_6), (bd_r (congrFun (fr23 61 rfl) 0) h8), (bd_r (congrFun (fr23 61 rfl) 2) h9), (ab_c (fr23 66 rfl) h10), (bd_r ((congrFun (fr23 70 rfl) 0).trans (congrFun (fr11 70 rfl) 0)) a3_10), (bd_r ((congrFun (fr23 70 rfl) 2).trans (congrFun (fr11 70 rfl) 2)) a3_11), (bd_r ((congrFun (fr23 79 rfl) 0).trans (congrFun (fr11 79 rfl) 0)) a3_12), (bd_r ((congrFun (fr23 79 rfl) 2).trans (congrFun (fr11 79 rfl) 2)) a3_13), (bd_r ((congrFun (fr23 56 rfl) 5).trans (congrFun (fr11 56 rfl) 5)) a3_14), (ab_c ((fr23 77 rfl).trans (fr11 77 rfl)) a3_15), (ab_c ((fr23 76 rfl).trans (fr11 76 rfl)) a3_16)⟩, (ig4_c (fun c hc => ((fr23 c (nin_rg hc rfl)).trans (fr11 c (nin_rg hc rfl)))) H4), (ig5_c (fun c hc => ((fr23 c (nin_rg hc rfl)).trans (fr11 c (nin_rg hc rfl)))) H5), ⟨h21, h20, (ab_c ((fr23 177 rfl).trans (fr11 177 rfl)) a6_2), (ab_c ((fr23 178 rfl).trans (fr11 178 rfl)) a6_3), (ab_c ((fr23 179 rfl).trans (fr11 179 rfl)) a6_4)⟩, h19, h22, (bd_r ((fc24 12 (Nat.ne_of_beq_eq_false rfl) (Nat.ne_of_beq_eq_false rfl) (Nat.ne_of_beq_eq_false rfl) (Nat.ne_of_beq_eq_false rfl) (Nat.ne_of_beq_eq_false rfl) (Nat.ne_of_beq_eq_false rfl) (Nat.ne_of_beq_eq_false rfl) (Nat.ne_of_beq_eq_false rfl) (Nat.ne_of_beq_eq_false rfl) (Nat.ne_of_beq_eq_false rfl)).trans (congrFun (fr11 162 rfl) 12)) f2), (bd_r ((fc24 17 (Nat.ne_of_beq_eq_false rfl) (Nat.ne_of_beq_eq_false rfl) (Nat.ne_of_beq_eq_false rfl) (Nat.ne_of_beq_eq_false rfl) (Nat.ne_of_beq_eq_false rfl) (Nat.ne_of_beq_eq_false rfl) (Nat.ne_of_beq_eq_false rfl) (Nat.ne_of_beq_eq_false rfl) (Nat.ne_of_beq_eq_false rfl) (Nat.ne_of_beq_eq_false rfl)).trans (congrFun (fr11 162 rfl) 17)) f3)⟩, (rly_2 (fun c hc => ((fr23 c (nin_y2 hc rfl)).trans (fr11 c (nin_y2 hc rfl)))) hR)⟩ hk (Nat.le_succ _) (Nat.le_succ _)
set_option maxHeartbeats 4000000 in
set_option maxRecDepth 100000 in
theorem law_30 {x : JX} {bb L k n : Nat} {xs : Nat → Int32} {i : Int32} {u : Nat → Nat → Int32} {g : Nat → Nat → Int64} {ex : List MC} (hq : LQ x bb) (hcon : x.2.2.2.2.2.2.2.2.2.2.2.2.2.2.1 0 = some (L, xs)) (hi : LI i L) (hI : INX u) (hk : k = 182 + ex.length) (hb : k + 1 ≤ 600000 ∧ n + 1 ≤ 7302250) (hd : 11 ≤ 11) (K : ∀ (u2 : Nat → Nat → Int32) (g2 : Nat → Nat → Int64) (ex2 : List MC) (k2 n2 : Nat), INX u2 → k2 = 182 + ex2.length → k2 ≤ k + 1 → n2 ≤ n + 1 → J x yL_law code 4 ret 11 600000 7302250 0 2255 [(3, .int i), (2, .ref 162), (1, .ref 0), (0, .retAddr 0)] [] (Wd u2 g2 ex2) k2 n2) : J x yL_law code 4 ret 11 600000 7302250 0 1624 [(3, .int i), (2, .ref 162), (1, .ref 0), (0, .retAddr 0)] [] (Wd u g ex) k n := by
  obtain ⟨hI, hR⟩ := hI
  obtain ⟨H0, H1, H2, H3, H4, H5, H6, f0, f1, f2, f3⟩ := hI
  have X0 := H0
  obtain ⟨a0_0, a0_1, a0_2, a0_3, a0_4, a0_5, a0_6, a0_7, a0_8, a0_9, a0_10, a0_11, a0_12, a0_13, a0_14, a0_15⟩ := X0
  have X1 := H1
  obtain ⟨a1_0, a1_1, a1_2, a1_3, a1_4, a1_5, a1_6, a1_7, a1_8, a1_9, a1_10, a1_11, a1_12, a1_13, a1_14, a1_15, a1_16, a1_17, a1_18, a1_19, a1_20, a1_21, a1_22, a1_23, a1_24, a1_25, a1_26, a1_27, a1_28, a1_29, a1_30, a1_31, a1_32, a1_33, a1_34, a1_35, a1_36, a1_37, a1_38, a1_39, a1_40, a1_41, a1_42, a1_43, a1_44, a1_45, a1_46, a1_47⟩ := X1
  have X2 := H2
  obtain ⟨a2_0, a2_1, a2_2, a2_3, a2_4, a2_5⟩ := X2
  have X3 := H3
  obtain ⟨a3_0, a3_1, a3_2, a3_3, a3_4, a3_5, a3_6, a3_7, a3_8, a3_9, a3_10, a3_11, a3_12, a3_13, a3_14, a3_15, a3_16⟩ := X3
  have X4 := H4
  obtain ⟨a4_0, a4_1, a4_2, a4_3, a4_4, a4_5, a4_6⟩ := X4
  have X5 := H5
  obtain ⟨a5_0, a5_1⟩ := X5
  have X6 := H6
  obtain ⟨a6_0, a6_1, a6_2, a6_3, a6_4⟩ := X6
  refine J_aload_n (i := 1) (j := 2) dL_law_1624 rfl rfl ?_
  refine J_aload_nC (i := 0) (j := 3) dL_law_1625 rfl rfl ?_
  refine J_iload_n (i := 3) (j := 0) dL_law_1626 rfl rfl ?_
  refine J_iconst (v := 1) dL_law_1627 (by decide) ?_
  refine J_iadd dL_law_1628 ?_
  refine J_cald (z := L) (f := xs) dL_law_1629 hcon (li_in hi (by decide)) ?_
  refine J_aload_nC (i := 0) (j := 3) dL_law_1630 rfl rfl ?_
  refine J_iload_n (i := 3) (j := 0) dL_law_1631 rfl rfl ?_
  refine J_iconst (v := 2) dL_law_1632 (by decide) ?_
  refine J_iadd dL_law_1633 ?_
  refine J_cald (z := L) (f := xs) dL_law_1634 hcon (li_in hi (by decide)) ?_
  refine J_aload_nC (i := 0) (j := 3) dL_law_1635 rfl rfl ?_
  refine J_iload_n (i := 3) (j := 0) dL_law_1636 rfl rfl ?_
  refine J_iconst (v := 3) dL_law_1637 (by decide) ?_
  refine J_iadd dL_law_1638 ?_
  refine J_cald (z := L) (f := xs) dL_law_1639 hcon (li_in hi (by decide)) ?_
  refine J_aload_nC (i := 0) (j := 3) dL_law_1640 rfl rfl ?_
  refine J_iload_n (i := 3) (j := 0) dL_law_1641 rfl rfl ?_
  refine J_iconst (v := 4) dL_law_1642 (by decide) ?_
  refine J_iadd dL_law_1643 ?_
  refine J_cald (z := L) (f := xs) dL_law_1644 hcon (li_in hi (by decide)) ?_
  have jn3 : ∀ (w2 : Int32), Bd 0 1 w2 → J x yL_law code 4 ret 11 600000 7302250 0 1653 [(0, .retAddr 0), (1, .ref 0), (2, .ref 162), (3, .int i)] [.int w2, .int (xs (i + 3).toNatClampNeg), .int (xs (i + 2).toNatClampNeg), .int (xs (i + 1).toNatClampNeg), .ref 0] (Wd u g ex) k n := by
    intro w2 bw2
    refine J_callV (As := [.int (xs (i + 1).toNatClampNeg), .int (xs (i + 2).toNatClampNeg), .int (xs (i + 3).toNatClampNeg), .int w2]) (rest := []) dL_law_1653 (c_P_upon (d := 6) (u := u) (g := g) (ex := ex) (hill := (xs (i + 1).toNatClampNeg)) (plan := (xs (i + 2).toNatClampNeg)) (pond := (xs (i + 3).toNatClampNeg)) (below := w2)  (by decide) a0_0 a0_5 a3_0 a3_1 a0_1 a0_2 a0_3 a0_4 a0_6 a0_7 a0_8 a3_2 a3_3 a0_9 a0_10 a0_11 a0_12 a0_13 a3_4) hq.n k1162 k1163 k1164 wc_0 rfl rfl k87 k1165 np_X10_upon (Nat.le_trans (by decide) hd) (by decide) (lk1 hb) (ln1 hb) (wlk hk) rfl (Nat.le_of_ble_eq_true rfl) (fun r_ h_ p4 => ?_)
    obtain ⟨v5, u6, rfl, rfl, h7, h8, h9, fr10, fc11, fc12⟩ := p4
    refine J_pop dL_law_1656 rfl ?_
    refine J_aload_n (i := 2) (j := 2) dL_law_1657 rfl rfl ?_
    refine J_aload_nC (i := 0) (j := 0) dL_law_1658 rfl rfl ?_
    refine J_iload_n (i := 3) (j := 3) dL_law_1659 rfl rfl ?_
    refine J_iconst (v := 1) dL_law_1660 (by decide) ?_
    refine J_iadd dL_law_1661 ?_
    refine J_cald (z := L) (f := xs) dL_law_1662 hcon (li_in hi (by decide)) ?_
    refine J_aload_nC (i := 0) (j := 0) dL_law_1663 rfl rfl ?_
    refine J_iload_n (i := 3) (j := 3) dL_law_1664 rfl rfl ?_
    refine J_iconst (v := 2) dL_law_1665 (by decide) ?_
    refine J_iadd dL_law_1666 ?_
    refine J_cald (z := L) (f := xs) dL_law_1667 hcon (li_in hi (by decide)) ?_
    refine J_aload_nC (i := 0) (j := 0) dL_law_1668 rfl rfl ?_
    refine J_iload_n (i := 3) (j := 3) dL_law_1669 rfl rfl ?_
    refine J_iconst (v := 3) dL_law_1670 (by decide) ?_
    refine J_iadd dL_law_1671 ?_
    refine J_cald (z := L) (f := xs) dL_law_1672 hcon (li_in hi (by decide)) ?_
    refine J_aload_nC (i := 0) (j := 0) dL_law_1673 rfl rfl ?_
    refine J_iload_n (i := 3) (j := 3) dL_law_1674 rfl rfl ?_
    refine J_iconst (v := 4) dL_law_1675 (by decide) ?_
    refine J_iadd dL_law_1676 ?_
    refine J_cald (z := L) (f := xs) dL_law_1677 hcon (li_in hi (by decide)) ?_
    have jn15 : ∀ (w14 : Int32), Bd 0 1 w14 → J x yL_law code 4 ret 11 600000 7302250 0 1686 [(0, .retAddr 0), (1, .ref 0), (2, .ref 162), (3, .int i)] [.int w14, .int (xs (i + 3).toNatClampNeg), .int (xs (i + 2).toNatClampNeg), .int (xs (i + 1).toNatClampNeg), .ref 162] (Wd u6 g ex) k n := by
      intro w14 bw14
      refine J_callV (As := [.int (xs (i + 1).toNatClampNeg), .int (xs (i + 2).toNatClampNeg), .int (xs (i + 3).toNatClampNeg), .int w14]) (rest := []) dL_law_1686 (c_M_upon (d := 3) (u := u6) (g := g) (ex := ex) (hill := (xs (i + 1).toNatClampNeg)) (plan := (xs (i + 2).toNatClampNeg)) (pond := (xs (i + 3).toNatClampNeg)) (below := w14)  (by decide) (my_c (fr10 167 rfl) a4_0) (ab_c (fr10 168 rfl) a4_1) (hd_c (fr10 168 rfl) a4_2) (hc_c (fr10 167 rfl) (fr10 168 rfl) a4_3) (pl_c (fr10 169 rfl) a4_4) (n0_c (fr10 172 rfl) a6_0) (dn_c (fr10 172 rfl) a6_1) (bd_r (congrFun (fr10 162 rfl) 22) f0) (bd_r (congrFun (fr10 162 rfl) 31) f1) (ab_c (fr10 177 rfl) a6_2)) hq.n k1743 k1744 k1745 wc_162 rfl rfl k97 k1746 np_X11_upon (Nat.le_trans (by decide) hd) (by decide) (lk1 hb) (ln1 hb) (wlk hk) rfl (Nat.le_of_ble_eq_true rfl) (fun r_ h_ p16 => ?_)
      obtain ⟨v17, u18, rfl, rfl, h19, h20, h21, h22, fr23, fc24⟩ := p16
      refine J_pop dL_law_1689 rfl ?_
      refine J_goto (tgt := 2255) dL_law_1690 (by decide) ?_
      refine J_lv [3, 2, 1, 0] rfl ?_
      exact K u18 g ex k n ⟨⟨(ig0_c (fun c hc => ((fr23 c (nin_rg hc rfl)).trans (fr10 c (nin_rg hc rfl)))) H0), (ig1_c (fun c hc => ((fr23 c (nin_rg hc rfl)).trans (fr10 c (nin_rg hc rfl)))) H1), (ig2_c (fun c hc => ((fr23 c (nin_rg hc rfl)).trans (fr10 c (nin_rg hc rfl)))) H2), ⟨(bd_r (congrFun (fr23 44 rfl) 0) h7), (bd_r (congrFun (fr23 44 rfl) 2) h8), (bd_r ((congrFun (fr23 49 rfl) 0).trans (congrFun (fr10 49 rfl) 0)) a3_2), (ab_c (fr23 45 rfl) h9), (km_c ((fr23 50 rfl).trans (fr10 50 rfl)) ((fr23 52 rfl).trans (fr10 52 rfl)) a3_4), (bd_r ((congrFun (fr23 53 rfl) 0).trans (congrFun (fr10 53 rfl) 0)) a3_5), (bd_r ((congrFun (fr23 53 rfl) 1).trans (congrFun (fr10 53 rfl) 1)) a3_6), (bd_r ((congrFun (fr23 61 rfl) 0).trans (congrFun (fr10 61 rfl) 0)) a3_7), (bd_r ((congrFun (fr23 61 rfl) 2).trans (congrFun (fr10 61 rfl) 2)) a3_8), (ab_c ((fr23 66 rfl).trans (fr10 66 rfl)) a3_9), (bd_r ((congrFun (fr23 70 rfl) 0).trans (congrFun (fr10 70 rfl) 0)) a3_10), (bd_r ((congrFun (fr23 70 rfl) 2).trans (congrFun (fr10 70 rfl) 2)) a3_11), (bd_r ((congrFun (fr23 79 rfl) 0).trans (congrFun (fr10 79 rfl) 0)) a3_12), (bd_r ((congrFun (fr23 79 rfl) 2).trans (congrFun (fr10 79 rfl) 2)) a3_13), (bd_r ((congrFun (fr23 56 rfl) 5).trans (congrFun (fr10 56 rfl) 5)) a3_14), (ab_c ((fr23 77 rfl).trans (fr10 77 rfl)) a3_15), (ab_c ((fr23 76 rfl).trans (fr10 76 rfl)) a3_16)⟩, (ig4_c (fun c hc => ((fr23 c (nin_rg hc rfl)).trans (fr10 c (nin_rg hc rfl)))) H4), (ig5_c (fun c hc => ((fr23 c (nin_rg hc rfl)).trans (fr10 c (nin_rg hc rfl)))) H5), ⟨h21, h20, (ab_c ((fr23 177 rfl).trans (fr10 177 rfl)) a6_2), (ab_c ((fr23 178 rfl).trans (fr10 178 rfl)) a6_3), (ab_c ((fr23 179 rfl).trans (fr10 179 rfl)) a6_4)⟩, h19, h22, (bd_r ((fc24 12 (Nat.ne_of_beq_eq_false rfl) (Nat.ne_of_beq_eq_false rfl) (Nat.ne_of_beq_eq_false rfl) (Nat.ne_of_beq_eq_false rfl) (Nat.ne_of_beq_eq_false rfl) (Nat.ne_of_beq_eq_false rfl) (Nat.ne_of_beq_eq_false rfl) (Nat.ne_of_beq_eq_false rfl) (Nat.ne_of_beq_eq_false rfl) (Nat.ne_of_beq_eq_false rfl)).trans (congrFun (fr10 162 rfl) 12)) f2), (bd_r ((fc24 17 (Nat.ne_of_beq_eq_false rfl) (Nat.ne_of_beq_eq_false rfl) (Nat.ne_of_beq_eq_false rfl) (Nat.ne_of_beq_eq_false rfl) (Nat.ne_of_beq_eq_false rfl) (Nat.ne_of_beq_eq_false rfl) (Nat.ne_of_beq_eq_false rfl) (Nat.ne_of_beq_eq_false rfl) (Nat.ne_of_beq_eq_false rfl) (Nat.ne_of_beq_eq_false rfl)).trans (congrFun (fr10 162 rfl) 17)) f3)⟩, (rly_2 (fun c hc => ((fr23 c (nin_y2 hc rfl)).trans (fr10 c (nin_y2 hc rfl)))) hR)⟩ hk (Nat.le_succ _) (Nat.le_succ _)
    refine J_if_eq (tgt := 1685) dL_law_1678 (by decide) (fun c13 => ?_) (fun c13 => ?_)
    · refine J_iconst (v := 0) dL_law_1685 (by decide) ?_
      refine J_lv [0, 1, 2, 3] rfl ?_
      exact jn15 (0 : Int32) (bd_w (l := 0) (h := 1) (bd_c (v := 0) (lo := 0) (hi := 0) (by decide)) (by decide))
    · refine J_iconst (v := 1) dL_law_1681 (by decide) ?_
      refine J_goto (tgt := 1686) dL_law_1682 (by decide) ?_
      refine J_lv [0, 1, 2, 3] rfl ?_
      exact jn15 (1 : Int32) (bd_w (l := 0) (h := 1) (bd_c (v := 1) (lo := 1) (hi := 1) (by decide)) (by decide))
  refine J_if_eq (tgt := 1652) dL_law_1645 (by decide) (fun c1 => ?_) (fun c1 => ?_)
  · refine J_iconst (v := 0) dL_law_1652 (by decide) ?_
    refine J_lv [3, 2, 1, 0] rfl ?_
    exact jn3 (0 : Int32) (bd_w (l := 0) (h := 1) (bd_c (v := 0) (lo := 0) (hi := 0) (by decide)) (by decide))
  · refine J_iconst (v := 1) dL_law_1648 (by decide) ?_
    refine J_goto (tgt := 1653) dL_law_1649 (by decide) ?_
    refine J_lv [3, 2, 1, 0] rfl ?_
    exact jn3 (1 : Int32) (bd_w (l := 0) (h := 1) (bd_c (v := 1) (lo := 1) (hi := 1) (by decide)) (by decide))
set_option maxHeartbeats 4000000 in
set_option maxRecDepth 100000 in
theorem law_31 {x : JX} {bb L k n : Nat} {xs : Nat → Int32} {i : Int32} {u : Nat → Nat → Int32} {g : Nat → Nat → Int64} {ex : List MC} (hq : LQ x bb) (hcon : x.2.2.2.2.2.2.2.2.2.2.2.2.2.2.1 0 = some (L, xs)) (hi : LI i L) (hI : INX u) (hk : k = 182 + ex.length) (hb : k + 1 ≤ 600000 ∧ n + 1 ≤ 7302250) (hd : 11 ≤ 11) (K : ∀ (u2 : Nat → Nat → Int32) (g2 : Nat → Nat → Int64) (ex2 : List MC) (k2 n2 : Nat), INX u2 → k2 = 182 + ex2.length → k2 ≤ k + 1 → n2 ≤ n + 1 → J x yL_law code 4 ret 11 600000 7302250 0 2255 [(3, .int i), (2, .ref 162), (1, .ref 0), (0, .retAddr 0)] [] (Wd u2 g2 ex2) k2 n2) : J x yL_law code 4 ret 11 600000 7302250 0 1693 [(3, .int i), (2, .ref 162), (1, .ref 0), (0, .retAddr 0)] [] (Wd u g ex) k n := by
  obtain ⟨hI, hR⟩ := hI
  obtain ⟨H0, H1, H2, H3, H4, H5, H6, f0, f1, f2, f3⟩ := hI
  have X0 := H0
  obtain ⟨a0_0, a0_1, a0_2, a0_3, a0_4, a0_5, a0_6, a0_7, a0_8, a0_9, a0_10, a0_11, a0_12, a0_13, a0_14, a0_15⟩ := X0
  have X1 := H1
  obtain ⟨a1_0, a1_1, a1_2, a1_3, a1_4, a1_5, a1_6, a1_7, a1_8, a1_9, a1_10, a1_11, a1_12, a1_13, a1_14, a1_15, a1_16, a1_17, a1_18, a1_19, a1_20, a1_21, a1_22, a1_23, a1_24, a1_25, a1_26, a1_27, a1_28, a1_29, a1_30, a1_31, a1_32, a1_33, a1_34, a1_35, a1_36, a1_37, a1_38, a1_39, a1_40, a1_41, a1_42, a1_43, a1_44, a1_45, a1_46, a1_47⟩ := X1
  have X2 := H2
  obtain ⟨a2_0, a2_1, a2_2, a2_3, a2_4, a2_5⟩ := X2
  have X3 := H3
  obtain ⟨a3_0, a3_1, a3_2, a3_3, a3_4, a3_5, a3_6, a3_7, a3_8, a3_9, a3_10, a3_11, a3_12, a3_13, a3_14, a3_15, a3_16⟩ := X3
  have X4 := H4
  obtain ⟨a4_0, a4_1, a4_2, a4_3, a4_4, a4_5, a4_6⟩ := X4
  have X5 := H5
  obtain ⟨a5_0, a5_1⟩ := X5
  have X6 := H6
  obtain ⟨a6_0, a6_1, a6_2, a6_3, a6_4⟩ := X6
  refine J_aload_n (i := 1) (j := 2) dL_law_1693 rfl rfl ?_
  refine J_aload_nC (i := 0) (j := 3) dL_law_1694 rfl rfl ?_
  refine J_iload_n (i := 3) (j := 0) dL_law_1695 rfl rfl ?_
  refine J_iconst (v := 1) dL_law_1696 (by decide) ?_
  refine J_iadd dL_law_1697 ?_
  refine J_cald (z := L) (f := xs) dL_law_1698 hcon (li_in hi (by decide)) ?_
  refine J_aload_nC (i := 0) (j := 3) dL_law_1699 rfl rfl ?_
  refine J_iload_n (i := 3) (j := 0) dL_law_1700 rfl rfl ?_
  refine J_iconst (v := 2) dL_law_1701 (by decide) ?_
  refine J_iadd dL_law_1702 ?_
  refine J_cald (z := L) (f := xs) dL_law_1703 hcon (li_in hi (by decide)) ?_
  refine J_aload_nC (i := 0) (j := 3) dL_law_1704 rfl rfl ?_
  refine J_iload_n (i := 3) (j := 0) dL_law_1705 rfl rfl ?_
  refine J_iconst (v := 3) dL_law_1706 (by decide) ?_
  refine J_iadd dL_law_1707 ?_
  refine J_cald (z := L) (f := xs) dL_law_1708 hcon (li_in hi (by decide)) ?_
  refine J_callV (As := [.int (xs (i + 1).toNatClampNeg), .int (xs (i + 2).toNatClampNeg), .int (xs (i + 3).toNatClampNeg)]) (rest := []) dL_law_1709 (c_P_runs (d := 6) (u := u) (g := g) (ex := ex) (hill := (xs (i + 1).toNatClampNeg)) (plan := (xs (i + 2).toNatClampNeg)) (pond := (xs (i + 3).toNatClampNeg))  (by decide) a0_0 a0_5 a3_0 a3_1 a0_1 a0_2 a0_3 a0_4 a0_6 a0_7 a0_8 a3_2 a3_3 a0_9 a0_10 a0_11 a0_12 a0_13 a3_4 a3_5 a3_6) hq.n k1178 k1179 k1180 wc_0 rfl rfl k87 k1181 np_X10_runs (Nat.le_trans (by decide) hd) (by decide) (lk1 hb) (ln1 hb) (wlk hk) rfl (Nat.le_of_ble_eq_true rfl) (fun r_ h_ p1 => ?_)
  obtain ⟨v2, u3, rfl, rfl, h4, h5, h6, h7, h8, fr9, fc10, fc11, fc12⟩ := p1
  refine J_pop dL_law_1712 rfl ?_
  refine J_aload_n (i := 2) (j := 1) dL_law_1713 rfl rfl ?_
  refine J_aload_nC (i := 0) (j := 3) dL_law_1714 rfl rfl ?_
  refine J_iload_n (i := 3) (j := 0) dL_law_1715 rfl rfl ?_
  refine J_iconst (v := 1) dL_law_1716 (by decide) ?_
  refine J_iadd dL_law_1717 ?_
  refine J_cald (z := L) (f := xs) dL_law_1718 hcon (li_in hi (by decide)) ?_
  refine J_aload_nC (i := 0) (j := 3) dL_law_1719 rfl rfl ?_
  refine J_iload_n (i := 3) (j := 0) dL_law_1720 rfl rfl ?_
  refine J_iconst (v := 2) dL_law_1721 (by decide) ?_
  refine J_iadd dL_law_1722 ?_
  refine J_cald (z := L) (f := xs) dL_law_1723 hcon (li_in hi (by decide)) ?_
  refine J_aload_nC (i := 0) (j := 3) dL_law_1724 rfl rfl ?_
  refine J_iload_n (i := 3) (j := 0) dL_law_1725 rfl rfl ?_
  refine J_iconst (v := 3) dL_law_1726 (by decide) ?_
  refine J_iadd dL_law_1727 ?_
  refine J_cald (z := L) (f := xs) dL_law_1728 hcon (li_in hi (by decide)) ?_
  refine J_callV (As := [.int (xs (i + 1).toNatClampNeg), .int (xs (i + 2).toNatClampNeg), .int (xs (i + 3).toNatClampNeg)]) (rest := []) dL_law_1729 (c_M_runs (d := 4) (u := u3) (g := g) (ex := ex) (hill := (xs (i + 1).toNatClampNeg)) (plan := (xs (i + 2).toNatClampNeg)) (pond := (xs (i + 3).toNatClampNeg))  (by decide) (my_c (fr9 167 rfl) a4_0) (ab_c (fr9 168 rfl) a4_1) (hd_c (fr9 168 rfl) a4_2) (hc_c (fr9 167 rfl) (fr9 168 rfl) a4_3) (pl_c (fr9 169 rfl) a4_4) (n0_c (fr9 172 rfl) a6_0) (dn_c (fr9 172 rfl) a6_1) (bd_r (congrFun (fr9 162 rfl) 22) f0) (bd_r (congrFun (fr9 162 rfl) 31) f1) (ab_c (fr9 177 rfl) a6_2)) hq.n k1751 k1752 k1753 wc_162 rfl rfl k97 k1754 np_X11_runs (Nat.le_trans (by decide) hd) (by decide) (lk1 hb) (ln1 hb) (wlk hk) rfl (Nat.le_of_ble_eq_true rfl) (fun r_ h_ p13 => ?_)
  obtain ⟨v14, u15, rfl, rfl, h16, h17, h18, h19, fr20, fc21⟩ := p13
  refine J_pop dL_law_1732 rfl ?_
  refine J_goto (tgt := 2255) dL_law_1733 (by decide) ?_
  exact K u15 g ex k n ⟨⟨(ig0_c (fun c hc => ((fr20 c (nin_rg hc rfl)).trans (fr9 c (nin_rg hc rfl)))) H0), (ig1_c (fun c hc => ((fr20 c (nin_rg hc rfl)).trans (fr9 c (nin_rg hc rfl)))) H1), (ig2_c (fun c hc => ((fr20 c (nin_rg hc rfl)).trans (fr9 c (nin_rg hc rfl)))) H2), ⟨(bd_r (congrFun (fr20 44 rfl) 0) h4), (bd_r (congrFun (fr20 44 rfl) 2) h5), (bd_r ((congrFun (fr20 49 rfl) 0).trans (congrFun (fr9 49 rfl) 0)) a3_2), (ab_c (fr20 45 rfl) h6), (km_c ((fr20 50 rfl).trans (fr9 50 rfl)) ((fr20 52 rfl).trans (fr9 52 rfl)) a3_4), (bd_r (congrFun (fr20 53 rfl) 0) h7), (bd_r (congrFun (fr20 53 rfl) 1) h8), (bd_r ((congrFun (fr20 61 rfl) 0).trans (congrFun (fr9 61 rfl) 0)) a3_7), (bd_r ((congrFun (fr20 61 rfl) 2).trans (congrFun (fr9 61 rfl) 2)) a3_8), (ab_c ((fr20 66 rfl).trans (fr9 66 rfl)) a3_9), (bd_r ((congrFun (fr20 70 rfl) 0).trans (congrFun (fr9 70 rfl) 0)) a3_10), (bd_r ((congrFun (fr20 70 rfl) 2).trans (congrFun (fr9 70 rfl) 2)) a3_11), (bd_r ((congrFun (fr20 79 rfl) 0).trans (congrFun (fr9 79 rfl) 0)) a3_12), (bd_r ((congrFun (fr20 79 rfl) 2).trans (congrFun (fr9 79 rfl) 2)) a3_13), (bd_r ((congrFun (fr20 56 rfl) 5).trans (congrFun (fr9 56 rfl) 5)) a3_14), (ab_c ((fr20 77 rfl).trans (fr9 77 rfl)) a3_15), (ab_c ((fr20 76 rfl).trans (fr9 76 rfl)) a3_16)⟩, (ig4_c (fun c hc => ((fr20 c (nin_rg hc rfl)).trans (fr9 c (nin_rg hc rfl)))) H4), (ig5_c (fun c hc => ((fr20 c (nin_rg hc rfl)).trans (fr9 c (nin_rg hc rfl)))) H5), ⟨h18, h17, (ab_c ((fr20 177 rfl).trans (fr9 177 rfl)) a6_2), (ab_c ((fr20 178 rfl).trans (fr9 178 rfl)) a6_3), (ab_c ((fr20 179 rfl).trans (fr9 179 rfl)) a6_4)⟩, h16, h19, (bd_r ((fc21 12 (Nat.ne_of_beq_eq_false rfl) (Nat.ne_of_beq_eq_false rfl) (Nat.ne_of_beq_eq_false rfl) (Nat.ne_of_beq_eq_false rfl) (Nat.ne_of_beq_eq_false rfl) (Nat.ne_of_beq_eq_false rfl) (Nat.ne_of_beq_eq_false rfl) (Nat.ne_of_beq_eq_false rfl) (Nat.ne_of_beq_eq_false rfl) (Nat.ne_of_beq_eq_false rfl)).trans (congrFun (fr9 162 rfl) 12)) f2), (bd_r ((fc21 17 (Nat.ne_of_beq_eq_false rfl) (Nat.ne_of_beq_eq_false rfl) (Nat.ne_of_beq_eq_false rfl) (Nat.ne_of_beq_eq_false rfl) (Nat.ne_of_beq_eq_false rfl) (Nat.ne_of_beq_eq_false rfl) (Nat.ne_of_beq_eq_false rfl) (Nat.ne_of_beq_eq_false rfl) (Nat.ne_of_beq_eq_false rfl) (Nat.ne_of_beq_eq_false rfl)).trans (congrFun (fr9 162 rfl) 17)) f3)⟩, (rly_2 (fun c hc => ((fr20 c (nin_y2 hc rfl)).trans (fr9 c (nin_y2 hc rfl)))) hR)⟩ hk (Nat.le_succ _) (Nat.le_succ _)
set_option maxHeartbeats 4000000 in
set_option maxRecDepth 100000 in
theorem law_32 {x : JX} {bb L k n : Nat} {xs : Nat → Int32} {i : Int32} {u : Nat → Nat → Int32} {g : Nat → Nat → Int64} {ex : List MC} (hq : LQ x bb) (hcon : x.2.2.2.2.2.2.2.2.2.2.2.2.2.2.1 0 = some (L, xs)) (hi : LI i L) (hI : INX u) (hk : k = 182 + ex.length) (hb : k + 1 ≤ 600000 ∧ n + 1 ≤ 7302250) (hd : 11 ≤ 11) (K : ∀ (u2 : Nat → Nat → Int32) (g2 : Nat → Nat → Int64) (ex2 : List MC) (k2 n2 : Nat), INX u2 → k2 = 182 + ex2.length → k2 ≤ k + 1 → n2 ≤ n + 1 → J x yL_law code 4 ret 11 600000 7302250 0 2255 [(3, .int i), (2, .ref 162), (1, .ref 0), (0, .retAddr 0)] [] (Wd u2 g2 ex2) k2 n2) : J x yL_law code 4 ret 11 600000 7302250 0 1736 [(3, .int i), (2, .ref 162), (1, .ref 0), (0, .retAddr 0)] [] (Wd u g ex) k n := by
  obtain ⟨hI, hR⟩ := hI
  obtain ⟨H0, H1, H2, H3, H4, H5, H6, f0, f1, f2, f3⟩ := hI
  have X0 := H0
  obtain ⟨a0_0, a0_1, a0_2, a0_3, a0_4, a0_5, a0_6, a0_7, a0_8, a0_9, a0_10, a0_11, a0_12, a0_13, a0_14, a0_15⟩ := X0
  have X1 := H1
  obtain ⟨a1_0, a1_1, a1_2, a1_3, a1_4, a1_5, a1_6, a1_7, a1_8, a1_9, a1_10, a1_11, a1_12, a1_13, a1_14, a1_15, a1_16, a1_17, a1_18, a1_19, a1_20, a1_21, a1_22, a1_23, a1_24, a1_25, a1_26, a1_27, a1_28, a1_29, a1_30, a1_31, a1_32, a1_33, a1_34, a1_35, a1_36, a1_37, a1_38, a1_39, a1_40, a1_41, a1_42, a1_43, a1_44, a1_45, a1_46, a1_47⟩ := X1
  have X2 := H2
  obtain ⟨a2_0, a2_1, a2_2, a2_3, a2_4, a2_5⟩ := X2
  have X3 := H3
  obtain ⟨a3_0, a3_1, a3_2, a3_3, a3_4, a3_5, a3_6, a3_7, a3_8, a3_9, a3_10, a3_11, a3_12, a3_13, a3_14, a3_15, a3_16⟩ := X3
  have X4 := H4
  obtain ⟨a4_0, a4_1, a4_2, a4_3, a4_4, a4_5, a4_6⟩ := X4
  have X5 := H5
  obtain ⟨a5_0, a5_1⟩ := X5
  have X6 := H6
  obtain ⟨a6_0, a6_1, a6_2, a6_3, a6_4⟩ := X6
  refine J_aload_n (i := 1) (j := 2) dL_law_1736 rfl rfl ?_
  refine J_aload_nC (i := 0) (j := 3) dL_law_1737 rfl rfl ?_
  refine J_iload_n (i := 3) (j := 0) dL_law_1738 rfl rfl ?_
  refine J_iconst (v := 1) dL_law_1739 (by decide) ?_
  refine J_iadd dL_law_1740 ?_
  refine J_cald (z := L) (f := xs) dL_law_1741 hcon (li_in hi (by decide)) ?_
  refine J_aload_nC (i := 0) (j := 3) dL_law_1742 rfl rfl ?_
  refine J_iload_n (i := 3) (j := 0) dL_law_1743 rfl rfl ?_
  refine J_iconst (v := 2) dL_law_1744 (by decide) ?_
  refine J_iadd dL_law_1745 ?_
  refine J_cald (z := L) (f := xs) dL_law_1746 hcon (li_in hi (by decide)) ?_
  refine J_aload_nC (i := 0) (j := 3) dL_law_1747 rfl rfl ?_
  refine J_iload_n (i := 3) (j := 0) dL_law_1748 rfl rfl ?_
  refine J_iconst (v := 3) dL_law_1749 (by decide) ?_
  refine J_iadd dL_law_1750 ?_
  refine J_cald (z := L) (f := xs) dL_law_1751 hcon (li_in hi (by decide)) ?_
  refine J_aload_nC (i := 0) (j := 3) dL_law_1752 rfl rfl ?_
  refine J_iload_n (i := 3) (j := 0) dL_law_1753 rfl rfl ?_
  refine J_iconst (v := 4) dL_law_1754 (by decide) ?_
  refine J_iadd dL_law_1755 ?_
  refine J_cald (z := L) (f := xs) dL_law_1756 hcon (li_in hi (by decide)) ?_
  refine J_callV (As := [.int (xs (i + 1).toNatClampNeg), .int (xs (i + 2).toNatClampNeg), .int (xs (i + 3).toNatClampNeg), .int (xs (i + 4).toNatClampNeg)]) (rest := []) dL_law_1757 (c_P_joint (d := 6) (u := u) (g := g) (ex := ex) (hill := (xs (i + 1).toNatClampNeg)) (plan := (xs (i + 2).toNatClampNeg)) (one := (xs (i + 3).toNatClampNeg)) (other := (xs (i + 4).toNatClampNeg))  (by decide) a0_0 a0_5 a3_0 a3_1 a0_1 a0_2 a0_3 a0_4 a0_6 a0_7 a0_8 a3_2 a3_3 a0_9 a0_10 a0_11 a0_12 a0_13 a3_4 a3_7 a3_8 a3_9) hq.n k1182 k1183 k1184 wc_0 rfl rfl k87 k1185 np_X10_joint (Nat.le_trans (by decide) hd) (by decide) (lk1 hb) (ln1 hb) (wlk hk) rfl (Nat.le_of_ble_eq_true rfl) (fun r_ h_ p1 => ?_)
  obtain ⟨l2, u3, g4, rfl, rfl, h5, h6, h7, h8, h9, h10, fr11, fc12, fc13, fc14, fc15⟩ := p1
  refine J_pop2_2 dL_law_1760 rfl ?_
  refine J_aload_n (i := 2) (j := 1) dL_law_1761 rfl rfl ?_
  refine J_aload_nC (i := 0) (j := 3) dL_law_1762 rfl rfl ?_
  refine J_iload_n (i := 3) (j := 0) dL_law_1763 rfl rfl ?_
  refine J_iconst (v := 1) dL_law_1764 (by decide) ?_
  refine J_iadd dL_law_1765 ?_
  refine J_cald (z := L) (f := xs) dL_law_1766 hcon (li_in hi (by decide)) ?_
  refine J_aload_nC (i := 0) (j := 3) dL_law_1767 rfl rfl ?_
  refine J_iload_n (i := 3) (j := 0) dL_law_1768 rfl rfl ?_
  refine J_iconst (v := 2) dL_law_1769 (by decide) ?_
  refine J_iadd dL_law_1770 ?_
  refine J_cald (z := L) (f := xs) dL_law_1771 hcon (li_in hi (by decide)) ?_
  refine J_aload_nC (i := 0) (j := 3) dL_law_1772 rfl rfl ?_
  refine J_iload_n (i := 3) (j := 0) dL_law_1773 rfl rfl ?_
  refine J_iconst (v := 3) dL_law_1774 (by decide) ?_
  refine J_iadd dL_law_1775 ?_
  refine J_cald (z := L) (f := xs) dL_law_1776 hcon (li_in hi (by decide)) ?_
  refine J_aload_nC (i := 0) (j := 3) dL_law_1777 rfl rfl ?_
  refine J_iload_n (i := 3) (j := 0) dL_law_1778 rfl rfl ?_
  refine J_iconst (v := 4) dL_law_1779 (by decide) ?_
  refine J_iadd dL_law_1780 ?_
  refine J_cald (z := L) (f := xs) dL_law_1781 hcon (li_in hi (by decide)) ?_
  refine J_callV (As := [.int (xs (i + 1).toNatClampNeg), .int (xs (i + 2).toNatClampNeg), .int (xs (i + 3).toNatClampNeg), .int (xs (i + 4).toNatClampNeg)]) (rest := []) dL_law_1782 (c_M_joint (d := 5) (u := u3) (g := g4) (ex := ex) (hill := (xs (i + 1).toNatClampNeg)) (plan := (xs (i + 2).toNatClampNeg)) (one := (xs (i + 3).toNatClampNeg)) (other := (xs (i + 4).toNatClampNeg))  (by decide) (my_c (fr11 167 rfl) a4_0) (ab_c (fr11 168 rfl) a4_1) (hd_c (fr11 168 rfl) a4_2) (hc_c (fr11 167 rfl) (fr11 168 rfl) a4_3) (pl_c (fr11 169 rfl) a4_4) (n0_c (fr11 172 rfl) a6_0) (dn_c (fr11 172 rfl) a6_1) (bd_r (congrFun (fr11 162 rfl) 22) f0) (bd_r (congrFun (fr11 162 rfl) 31) f1) (ab_c (fr11 177 rfl) a6_2)) hq.n k1755 k1756 k1757 wc_162 rfl rfl k97 k1758 np_X11_joint (Nat.le_trans (by decide) hd) (by decide) (lk1 hb) (ln1 hb) (wlk hk) rfl (Nat.le_of_ble_eq_true rfl) (fun r_ h_ p16 => ?_)
  obtain ⟨l17, u18, rfl, rfl, h19, h20, h21, h22, fr23, fc24⟩ := p16
  refine J_pop2_2 dL_law_1785 rfl ?_
  refine J_goto (tgt := 2255) dL_law_1786 (by decide) ?_
  exact K u18 g4 ex k n ⟨⟨(ig0_c (fun c hc => ((fr23 c (nin_rg hc rfl)).trans (fr11 c (nin_rg hc rfl)))) H0), (ig1_c (fun c hc => ((fr23 c (nin_rg hc rfl)).trans (fr11 c (nin_rg hc rfl)))) H1), (ig2_c (fun c hc => ((fr23 c (nin_rg hc rfl)).trans (fr11 c (nin_rg hc rfl)))) H2), ⟨(bd_r (congrFun (fr23 44 rfl) 0) h5), (bd_r (congrFun (fr23 44 rfl) 2) h6), (bd_r ((congrFun (fr23 49 rfl) 0).trans (congrFun (fr11 49 rfl) 0)) a3_2), (ab_c (fr23 45 rfl) h7), (km_c ((fr23 50 rfl).trans (fr11 50 rfl)) ((fr23 52 rfl).trans (fr11 52 rfl)) a3_4), (bd_r ((congrFun (fr23 53 rfl) 0).trans (congrFun (fr11 53 rfl) 0)) a3_5), (bd_r ((congrFun (fr23 53 rfl) 1).trans (congrFun (fr11 53 rfl) 1)) a3_6), (bd_r (congrFun (fr23 61 rfl) 0) h8), (bd_r (congrFun (fr23 61 rfl) 2) h9), (ab_c (fr23 66 rfl) h10), (bd_r ((congrFun (fr23 70 rfl) 0).trans (congrFun (fr11 70 rfl) 0)) a3_10), (bd_r ((congrFun (fr23 70 rfl) 2).trans (congrFun (fr11 70 rfl) 2)) a3_11), (bd_r ((congrFun (fr23 79 rfl) 0).trans (congrFun (fr11 79 rfl) 0)) a3_12), (bd_r ((congrFun (fr23 79 rfl) 2).trans (congrFun (fr11 79 rfl) 2)) a3_13), (bd_r ((congrFun (fr23 56 rfl) 5).trans (congrFun (fr11 56 rfl) 5)) a3_14), (ab_c ((fr23 77 rfl).trans (fr11 77 rfl)) a3_15), (ab_c ((fr23 76 rfl).trans (fr11 76 rfl)) a3_16)⟩, (ig4_c (fun c hc => ((fr23 c (nin_rg hc rfl)).trans (fr11 c (nin_rg hc rfl)))) H4), (ig5_c (fun c hc => ((fr23 c (nin_rg hc rfl)).trans (fr11 c (nin_rg hc rfl)))) H5), ⟨h21, h20, (ab_c ((fr23 177 rfl).trans (fr11 177 rfl)) a6_2), (ab_c ((fr23 178 rfl).trans (fr11 178 rfl)) a6_3), (ab_c ((fr23 179 rfl).trans (fr11 179 rfl)) a6_4)⟩, h19, h22, (bd_r ((fc24 12 (Nat.ne_of_beq_eq_false rfl) (Nat.ne_of_beq_eq_false rfl) (Nat.ne_of_beq_eq_false rfl) (Nat.ne_of_beq_eq_false rfl) (Nat.ne_of_beq_eq_false rfl) (Nat.ne_of_beq_eq_false rfl) (Nat.ne_of_beq_eq_false rfl) (Nat.ne_of_beq_eq_false rfl) (Nat.ne_of_beq_eq_false rfl) (Nat.ne_of_beq_eq_false rfl)).trans (congrFun (fr11 162 rfl) 12)) f2), (bd_r ((fc24 17 (Nat.ne_of_beq_eq_false rfl) (Nat.ne_of_beq_eq_false rfl) (Nat.ne_of_beq_eq_false rfl) (Nat.ne_of_beq_eq_false rfl) (Nat.ne_of_beq_eq_false rfl) (Nat.ne_of_beq_eq_false rfl) (Nat.ne_of_beq_eq_false rfl) (Nat.ne_of_beq_eq_false rfl) (Nat.ne_of_beq_eq_false rfl) (Nat.ne_of_beq_eq_false rfl)).trans (congrFun (fr11 162 rfl) 17)) f3)⟩, (rly_2 (fun c hc => ((fr23 c (nin_y2 hc rfl)).trans (fr11 c (nin_y2 hc rfl)))) hR)⟩ hk (Nat.le_succ _) (Nat.le_succ _)
set_option maxHeartbeats 4000000 in
set_option maxRecDepth 100000 in
theorem law_33 {x : JX} {bb L k n : Nat} {xs : Nat → Int32} {i : Int32} {u : Nat → Nat → Int32} {g : Nat → Nat → Int64} {ex : List MC} (hq : LQ x bb) (hcon : x.2.2.2.2.2.2.2.2.2.2.2.2.2.2.1 0 = some (L, xs)) (hi : LI i L) (hI : INX u) (hk : k = 182 + ex.length) (hb : k + 1 ≤ 600000 ∧ n + 1 ≤ 7302250) (hd : 11 ≤ 11) (K : ∀ (u2 : Nat → Nat → Int32) (g2 : Nat → Nat → Int64) (ex2 : List MC) (k2 n2 : Nat), INX u2 → k2 = 182 + ex2.length → k2 ≤ k + 1 → n2 ≤ n + 1 → J x yL_law code 4 ret 11 600000 7302250 0 2255 [(3, .int i), (2, .ref 162), (1, .ref 0), (0, .retAddr 0)] [] (Wd u2 g2 ex2) k2 n2) : J x yL_law code 4 ret 11 600000 7302250 0 1789 [(3, .int i), (2, .ref 162), (1, .ref 0), (0, .retAddr 0)] [] (Wd u g ex) k n := by
  obtain ⟨hI, hR⟩ := hI
  obtain ⟨H0, H1, H2, H3, H4, H5, H6, f0, f1, f2, f3⟩ := hI
  have X0 := H0
  obtain ⟨a0_0, a0_1, a0_2, a0_3, a0_4, a0_5, a0_6, a0_7, a0_8, a0_9, a0_10, a0_11, a0_12, a0_13, a0_14, a0_15⟩ := X0
  have X1 := H1
  obtain ⟨a1_0, a1_1, a1_2, a1_3, a1_4, a1_5, a1_6, a1_7, a1_8, a1_9, a1_10, a1_11, a1_12, a1_13, a1_14, a1_15, a1_16, a1_17, a1_18, a1_19, a1_20, a1_21, a1_22, a1_23, a1_24, a1_25, a1_26, a1_27, a1_28, a1_29, a1_30, a1_31, a1_32, a1_33, a1_34, a1_35, a1_36, a1_37, a1_38, a1_39, a1_40, a1_41, a1_42, a1_43, a1_44, a1_45, a1_46, a1_47⟩ := X1
  have X2 := H2
  obtain ⟨a2_0, a2_1, a2_2, a2_3, a2_4, a2_5⟩ := X2
  have X3 := H3
  obtain ⟨a3_0, a3_1, a3_2, a3_3, a3_4, a3_5, a3_6, a3_7, a3_8, a3_9, a3_10, a3_11, a3_12, a3_13, a3_14, a3_15, a3_16⟩ := X3
  have X4 := H4
  obtain ⟨a4_0, a4_1, a4_2, a4_3, a4_4, a4_5, a4_6⟩ := X4
  have X5 := H5
  obtain ⟨a5_0, a5_1⟩ := X5
  have X6 := H6
  obtain ⟨a6_0, a6_1, a6_2, a6_3, a6_4⟩ := X6
  refine J_aload_n (i := 1) (j := 2) dL_law_1789 rfl rfl ?_
  refine J_aload_nC (i := 0) (j := 3) dL_law_1790 rfl rfl ?_
  refine J_iload_n (i := 3) (j := 0) dL_law_1791 rfl rfl ?_
  refine J_iconst (v := 1) dL_law_1792 (by decide) ?_
  refine J_iadd dL_law_1793 ?_
  refine J_cald (z := L) (f := xs) dL_law_1794 hcon (li_in hi (by decide)) ?_
  refine J_aload_nC (i := 0) (j := 3) dL_law_1795 rfl rfl ?_
  refine J_iload_n (i := 3) (j := 0) dL_law_1796 rfl rfl ?_
  refine J_iconst (v := 2) dL_law_1797 (by decide) ?_
  refine J_iadd dL_law_1798 ?_
  refine J_cald (z := L) (f := xs) dL_law_1799 hcon (li_in hi (by decide)) ?_
  refine J_aload_nC (i := 0) (j := 3) dL_law_1800 rfl rfl ?_
  refine J_iload_n (i := 3) (j := 0) dL_law_1801 rfl rfl ?_
  refine J_iconst (v := 3) dL_law_1802 (by decide) ?_
  refine J_iadd dL_law_1803 ?_
  refine J_cald (z := L) (f := xs) dL_law_1804 hcon (li_in hi (by decide)) ?_
  refine J_aload_nC (i := 0) (j := 3) dL_law_1805 rfl rfl ?_
  refine J_iload_n (i := 3) (j := 0) dL_law_1806 rfl rfl ?_
  refine J_iconst (v := 4) dL_law_1807 (by decide) ?_
  refine J_iadd dL_law_1808 ?_
  refine J_cald (z := L) (f := xs) dL_law_1809 hcon (li_in hi (by decide)) ?_
  refine J_aload_nC (i := 0) (j := 3) dL_law_1810 rfl rfl ?_
  refine J_iload_n (i := 3) (j := 0) dL_law_1811 rfl rfl ?_
  refine J_iconst (v := 5) dL_law_1812 (by decide) ?_
  refine J_iadd dL_law_1813 ?_
  refine J_cald (z := L) (f := xs) dL_law_1814 hcon (li_in hi (by decide)) ?_
  have jn3 : ∀ (w2 : Int32), Bd 0 1 w2 → J x yL_law code 4 ret 11 600000 7302250 0 1823 [(0, .retAddr 0), (1, .ref 0), (2, .ref 162), (3, .int i)] [.int w2, .int (xs (i + 4).toNatClampNeg), .int (xs (i + 3).toNatClampNeg), .int (xs (i + 2).toNatClampNeg), .int (xs (i + 1).toNatClampNeg), .ref 0] (Wd u g ex) k n := by
    intro w2 bw2
    refine J_callV (As := [.int (xs (i + 1).toNatClampNeg), .int (xs (i + 2).toNatClampNeg), .int (xs (i + 3).toNatClampNeg), .int (xs (i + 4).toNatClampNeg), .int w2]) (rest := []) dL_law_1823 (c_P_given (d := 6) (u := u) (g := g) (ex := ex) (hill := (xs (i + 1).toNatClampNeg)) (plan := (xs (i + 2).toNatClampNeg)) (one := (xs (i + 3).toNatClampNeg)) (other := (xs (i + 4).toNatClampNeg)) (under := w2)  (by decide) a0_0 a0_5 a3_0 a3_1 a0_1 a0_2 a0_3 a0_4 a0_6 a0_7 a0_8 a3_2 a3_3 a0_9 a0_10 a0_11 a0_12 a0_13 a3_4 a3_7 a3_8 a3_9) hq.n k1186 k1187 k1188 wc_0 rfl rfl k87 k1189 np_X10_given (Nat.le_trans (by decide) hd) (by decide) (lk1 hb) (ln1 hb) (wlk hk) rfl (Nat.le_of_ble_eq_true rfl) (fun r_ h_ p4 => ?_)
    obtain ⟨l5, u6, g7, rfl, rfl, h8, h9, h10, h11, h12, h13, fr14, fc15, fc16, fc17, fc18⟩ := p4
    refine J_pop2_2 dL_law_1826 rfl ?_
    refine J_aload_n (i := 2) (j := 2) dL_law_1827 rfl rfl ?_
    refine J_aload_nC (i := 0) (j := 0) dL_law_1828 rfl rfl ?_
    refine J_iload_n (i := 3) (j := 3) dL_law_1829 rfl rfl ?_
    refine J_iconst (v := 1) dL_law_1830 (by decide) ?_
    refine J_iadd dL_law_1831 ?_
    refine J_cald (z := L) (f := xs) dL_law_1832 hcon (li_in hi (by decide)) ?_
    refine J_aload_nC (i := 0) (j := 0) dL_law_1833 rfl rfl ?_
    refine J_iload_n (i := 3) (j := 3) dL_law_1834 rfl rfl ?_
    refine J_iconst (v := 2) dL_law_1835 (by decide) ?_
    refine J_iadd dL_law_1836 ?_
    refine J_cald (z := L) (f := xs) dL_law_1837 hcon (li_in hi (by decide)) ?_
    refine J_aload_nC (i := 0) (j := 0) dL_law_1838 rfl rfl ?_
    refine J_iload_n (i := 3) (j := 3) dL_law_1839 rfl rfl ?_
    refine J_iconst (v := 3) dL_law_1840 (by decide) ?_
    refine J_iadd dL_law_1841 ?_
    refine J_cald (z := L) (f := xs) dL_law_1842 hcon (li_in hi (by decide)) ?_
    refine J_aload_nC (i := 0) (j := 0) dL_law_1843 rfl rfl ?_
    refine J_iload_n (i := 3) (j := 3) dL_law_1844 rfl rfl ?_
    refine J_iconst (v := 4) dL_law_1845 (by decide) ?_
    refine J_iadd dL_law_1846 ?_
    refine J_cald (z := L) (f := xs) dL_law_1847 hcon (li_in hi (by decide)) ?_
    refine J_aload_nC (i := 0) (j := 0) dL_law_1848 rfl rfl ?_
    refine J_iload_n (i := 3) (j := 3) dL_law_1849 rfl rfl ?_
    refine J_iconst (v := 5) dL_law_1850 (by decide) ?_
    refine J_iadd dL_law_1851 ?_
    refine J_cald (z := L) (f := xs) dL_law_1852 hcon (li_in hi (by decide)) ?_
    have jn21 : ∀ (w20 : Int32), Bd 0 1 w20 → J x yL_law code 4 ret 11 600000 7302250 0 1861 [(0, .retAddr 0), (1, .ref 0), (2, .ref 162), (3, .int i)] [.int w20, .int (xs (i + 4).toNatClampNeg), .int (xs (i + 3).toNatClampNeg), .int (xs (i + 2).toNatClampNeg), .int (xs (i + 1).toNatClampNeg), .ref 162] (Wd u6 g7 ex) k n := by
      intro w20 bw20
      refine J_callV (As := [.int (xs (i + 1).toNatClampNeg), .int (xs (i + 2).toNatClampNeg), .int (xs (i + 3).toNatClampNeg), .int (xs (i + 4).toNatClampNeg), .int w20]) (rest := []) dL_law_1861 (c_M_given (d := 5) (u := u6) (g := g7) (ex := ex) (hill := (xs (i + 1).toNatClampNeg)) (plan := (xs (i + 2).toNatClampNeg)) (one := (xs (i + 3).toNatClampNeg)) (other := (xs (i + 4).toNatClampNeg)) (under := w20)  (by decide) (my_c (fr14 167 rfl) a4_0) (ab_c (fr14 168 rfl) a4_1) (hd_c (fr14 168 rfl) a4_2) (hc_c (fr14 167 rfl) (fr14 168 rfl) a4_3) (pl_c (fr14 169 rfl) a4_4) (n0_c (fr14 172 rfl) a6_0) (dn_c (fr14 172 rfl) a6_1) (bd_r (congrFun (fr14 162 rfl) 22) f0) (bd_r (congrFun (fr14 162 rfl) 31) f1) (ab_c (fr14 177 rfl) a6_2)) hq.n k1763 k1764 k1765 wc_162 rfl rfl k97 k1766 np_X11_given (Nat.le_trans (by decide) hd) (by decide) (lk1 hb) (ln1 hb) (wlk hk) rfl (Nat.le_of_ble_eq_true rfl) (fun r_ h_ p22 => ?_)
      obtain ⟨l23, u24, rfl, rfl, h25, h26, h27, h28, fr29, fc30⟩ := p22
      refine J_pop2_2 dL_law_1864 rfl ?_
      refine J_goto (tgt := 2255) dL_law_1865 (by decide) ?_
      refine J_lv [3, 2, 1, 0] rfl ?_
      exact K u24 g7 ex k n ⟨⟨(ig0_c (fun c hc => ((fr29 c (nin_rg hc rfl)).trans (fr14 c (nin_rg hc rfl)))) H0), (ig1_c (fun c hc => ((fr29 c (nin_rg hc rfl)).trans (fr14 c (nin_rg hc rfl)))) H1), (ig2_c (fun c hc => ((fr29 c (nin_rg hc rfl)).trans (fr14 c (nin_rg hc rfl)))) H2), ⟨(bd_r (congrFun (fr29 44 rfl) 0) h8), (bd_r (congrFun (fr29 44 rfl) 2) h9), (bd_r ((congrFun (fr29 49 rfl) 0).trans (congrFun (fr14 49 rfl) 0)) a3_2), (ab_c (fr29 45 rfl) h10), (km_c ((fr29 50 rfl).trans (fr14 50 rfl)) ((fr29 52 rfl).trans (fr14 52 rfl)) a3_4), (bd_r ((congrFun (fr29 53 rfl) 0).trans (congrFun (fr14 53 rfl) 0)) a3_5), (bd_r ((congrFun (fr29 53 rfl) 1).trans (congrFun (fr14 53 rfl) 1)) a3_6), (bd_r (congrFun (fr29 61 rfl) 0) h11), (bd_r (congrFun (fr29 61 rfl) 2) h12), (ab_c (fr29 66 rfl) h13), (bd_r ((congrFun (fr29 70 rfl) 0).trans (congrFun (fr14 70 rfl) 0)) a3_10), (bd_r ((congrFun (fr29 70 rfl) 2).trans (congrFun (fr14 70 rfl) 2)) a3_11), (bd_r ((congrFun (fr29 79 rfl) 0).trans (congrFun (fr14 79 rfl) 0)) a3_12), (bd_r ((congrFun (fr29 79 rfl) 2).trans (congrFun (fr14 79 rfl) 2)) a3_13), (bd_r ((congrFun (fr29 56 rfl) 5).trans (congrFun (fr14 56 rfl) 5)) a3_14), (ab_c ((fr29 77 rfl).trans (fr14 77 rfl)) a3_15), (ab_c ((fr29 76 rfl).trans (fr14 76 rfl)) a3_16)⟩, (ig4_c (fun c hc => ((fr29 c (nin_rg hc rfl)).trans (fr14 c (nin_rg hc rfl)))) H4), (ig5_c (fun c hc => ((fr29 c (nin_rg hc rfl)).trans (fr14 c (nin_rg hc rfl)))) H5), ⟨h27, h26, (ab_c ((fr29 177 rfl).trans (fr14 177 rfl)) a6_2), (ab_c ((fr29 178 rfl).trans (fr14 178 rfl)) a6_3), (ab_c ((fr29 179 rfl).trans (fr14 179 rfl)) a6_4)⟩, h25, h28, (bd_r ((fc30 12 (Nat.ne_of_beq_eq_false rfl) (Nat.ne_of_beq_eq_false rfl) (Nat.ne_of_beq_eq_false rfl) (Nat.ne_of_beq_eq_false rfl) (Nat.ne_of_beq_eq_false rfl) (Nat.ne_of_beq_eq_false rfl) (Nat.ne_of_beq_eq_false rfl) (Nat.ne_of_beq_eq_false rfl) (Nat.ne_of_beq_eq_false rfl) (Nat.ne_of_beq_eq_false rfl)).trans (congrFun (fr14 162 rfl) 12)) f2), (bd_r ((fc30 17 (Nat.ne_of_beq_eq_false rfl) (Nat.ne_of_beq_eq_false rfl) (Nat.ne_of_beq_eq_false rfl) (Nat.ne_of_beq_eq_false rfl) (Nat.ne_of_beq_eq_false rfl) (Nat.ne_of_beq_eq_false rfl) (Nat.ne_of_beq_eq_false rfl) (Nat.ne_of_beq_eq_false rfl) (Nat.ne_of_beq_eq_false rfl) (Nat.ne_of_beq_eq_false rfl)).trans (congrFun (fr14 162 rfl) 17)) f3)⟩, (rly_2 (fun c hc => ((fr29 c (nin_y2 hc rfl)).trans (fr14 c (nin_y2 hc rfl)))) hR)⟩ hk (Nat.le_succ _) (Nat.le_succ _)
    refine J_if_eq (tgt := 1860) dL_law_1853 (by decide) (fun c19 => ?_) (fun c19 => ?_)
    · refine J_iconst (v := 0) dL_law_1860 (by decide) ?_
      refine J_lv [0, 1, 2, 3] rfl ?_
      exact jn21 (0 : Int32) (bd_w (l := 0) (h := 1) (bd_c (v := 0) (lo := 0) (hi := 0) (by decide)) (by decide))
    · refine J_iconst (v := 1) dL_law_1856 (by decide) ?_
      refine J_goto (tgt := 1861) dL_law_1857 (by decide) ?_
      refine J_lv [0, 1, 2, 3] rfl ?_
      exact jn21 (1 : Int32) (bd_w (l := 0) (h := 1) (bd_c (v := 1) (lo := 1) (hi := 1) (by decide)) (by decide))
  refine J_if_eq (tgt := 1822) dL_law_1815 (by decide) (fun c1 => ?_) (fun c1 => ?_)
  · refine J_iconst (v := 0) dL_law_1822 (by decide) ?_
    refine J_lv [3, 2, 1, 0] rfl ?_
    exact jn3 (0 : Int32) (bd_w (l := 0) (h := 1) (bd_c (v := 0) (lo := 0) (hi := 0) (by decide)) (by decide))
  · refine J_iconst (v := 1) dL_law_1818 (by decide) ?_
    refine J_goto (tgt := 1823) dL_law_1819 (by decide) ?_
    refine J_lv [3, 2, 1, 0] rfl ?_
    exact jn3 (1 : Int32) (bd_w (l := 0) (h := 1) (bd_c (v := 1) (lo := 1) (hi := 1) (by decide)) (by decide))
set_option maxHeartbeats 4000000 in
set_option maxRecDepth 100000 in
theorem law_34 {x : JX} {bb L k n : Nat} {xs : Nat → Int32} {i : Int32} {u : Nat → Nat → Int32} {g : Nat → Nat → Int64} {ex : List MC} (hq : LQ x bb) (hcon : x.2.2.2.2.2.2.2.2.2.2.2.2.2.2.1 0 = some (L, xs)) (hi : LI i L) (hI : INX u) (hk : k = 182 + ex.length) (hb : k + 1 ≤ 600000 ∧ n + 1 ≤ 7302250) (hd : 11 ≤ 11) (K : ∀ (u2 : Nat → Nat → Int32) (g2 : Nat → Nat → Int64) (ex2 : List MC) (k2 n2 : Nat), INX u2 → k2 = 182 + ex2.length → k2 ≤ k + 1 → n2 ≤ n + 1 → J x yL_law code 4 ret 11 600000 7302250 0 2255 [(3, .int i), (2, .ref 162), (1, .ref 0), (0, .retAddr 0)] [] (Wd u2 g2 ex2) k2 n2) : J x yL_law code 4 ret 11 600000 7302250 0 1868 [(3, .int i), (2, .ref 162), (1, .ref 0), (0, .retAddr 0)] [] (Wd u g ex) k n := by
  obtain ⟨hI, hR⟩ := hI
  obtain ⟨H0, H1, H2, H3, H4, H5, H6, f0, f1, f2, f3⟩ := hI
  have X0 := H0
  obtain ⟨a0_0, a0_1, a0_2, a0_3, a0_4, a0_5, a0_6, a0_7, a0_8, a0_9, a0_10, a0_11, a0_12, a0_13, a0_14, a0_15⟩ := X0
  have X1 := H1
  obtain ⟨a1_0, a1_1, a1_2, a1_3, a1_4, a1_5, a1_6, a1_7, a1_8, a1_9, a1_10, a1_11, a1_12, a1_13, a1_14, a1_15, a1_16, a1_17, a1_18, a1_19, a1_20, a1_21, a1_22, a1_23, a1_24, a1_25, a1_26, a1_27, a1_28, a1_29, a1_30, a1_31, a1_32, a1_33, a1_34, a1_35, a1_36, a1_37, a1_38, a1_39, a1_40, a1_41, a1_42, a1_43, a1_44, a1_45, a1_46, a1_47⟩ := X1
  have X2 := H2
  obtain ⟨a2_0, a2_1, a2_2, a2_3, a2_4, a2_5⟩ := X2
  have X3 := H3
  obtain ⟨a3_0, a3_1, a3_2, a3_3, a3_4, a3_5, a3_6, a3_7, a3_8, a3_9, a3_10, a3_11, a3_12, a3_13, a3_14, a3_15, a3_16⟩ := X3
  have X4 := H4
  obtain ⟨a4_0, a4_1, a4_2, a4_3, a4_4, a4_5, a4_6⟩ := X4
  have X5 := H5
  obtain ⟨a5_0, a5_1⟩ := X5
  have X6 := H6
  obtain ⟨a6_0, a6_1, a6_2, a6_3, a6_4⟩ := X6
  refine J_aload_n (i := 1) (j := 2) dL_law_1868 rfl rfl ?_
  refine J_aload_nC (i := 0) (j := 3) dL_law_1869 rfl rfl ?_
  refine J_iload_n (i := 3) (j := 0) dL_law_1870 rfl rfl ?_
  refine J_iconst (v := 1) dL_law_1871 (by decide) ?_
  refine J_iadd dL_law_1872 ?_
  refine J_cald (z := L) (f := xs) dL_law_1873 hcon (li_in hi (by decide)) ?_
  refine J_aload_nC (i := 0) (j := 3) dL_law_1874 rfl rfl ?_
  refine J_iload_n (i := 3) (j := 0) dL_law_1875 rfl rfl ?_
  refine J_iconst (v := 2) dL_law_1876 (by decide) ?_
  refine J_iadd dL_law_1877 ?_
  refine J_cald (z := L) (f := xs) dL_law_1878 hcon (li_in hi (by decide)) ?_
  refine J_aload_nC (i := 0) (j := 3) dL_law_1879 rfl rfl ?_
  refine J_iload_n (i := 3) (j := 0) dL_law_1880 rfl rfl ?_
  refine J_iconst (v := 3) dL_law_1881 (by decide) ?_
  refine J_iadd dL_law_1882 ?_
  refine J_cald (z := L) (f := xs) dL_law_1883 hcon (li_in hi (by decide)) ?_
  refine J_callV (As := [.int (xs (i + 1).toNatClampNeg), .int (xs (i + 2).toNatClampNeg), .int (xs (i + 3).toNatClampNeg)]) (rest := []) dL_law_1884 (c_P_worst (d := 6) (u := u) (g := g) (ex := ex) (hill := (xs (i + 1).toNatClampNeg)) (plan := (xs (i + 2).toNatClampNeg)) (what := (xs (i + 3).toNatClampNeg))  (by decide) a0_0 a0_5 a3_0 a3_1 a0_1 a0_2 a0_3 a0_4 a0_6 a0_7 a0_8 a3_2 a3_3 a0_9 a0_10 a0_11 a0_12 a0_13 a3_4 a3_7 a3_8 a3_9) hq.n k1190 k1191 k1192 wc_0 rfl rfl k87 k1193 np_X10_worst (Nat.le_trans (by decide) hd) (by decide) (lk1 hb) (ln1 hb) (wlk hk) rfl (Nat.le_of_ble_eq_true rfl) (fun r_ h_ p1 => ?_)
  obtain ⟨l2, u3, g4, rfl, rfl, h5, h6, h7, h8, h9, h10, fr11, fc12, fc13, fc14, fc15⟩ := p1
  refine J_pop2_2 dL_law_1887 rfl ?_
  refine J_aload_n (i := 2) (j := 1) dL_law_1888 rfl rfl ?_
  refine J_aload_nC (i := 0) (j := 3) dL_law_1889 rfl rfl ?_
  refine J_iload_n (i := 3) (j := 0) dL_law_1890 rfl rfl ?_
  refine J_iconst (v := 1) dL_law_1891 (by decide) ?_
  refine J_iadd dL_law_1892 ?_
  refine J_cald (z := L) (f := xs) dL_law_1893 hcon (li_in hi (by decide)) ?_
  refine J_aload_nC (i := 0) (j := 3) dL_law_1894 rfl rfl ?_
  refine J_iload_n (i := 3) (j := 0) dL_law_1895 rfl rfl ?_
  refine J_iconst (v := 2) dL_law_1896 (by decide) ?_
  refine J_iadd dL_law_1897 ?_
  refine J_cald (z := L) (f := xs) dL_law_1898 hcon (li_in hi (by decide)) ?_
  refine J_aload_nC (i := 0) (j := 3) dL_law_1899 rfl rfl ?_
  refine J_iload_n (i := 3) (j := 0) dL_law_1900 rfl rfl ?_
  refine J_iconst (v := 3) dL_law_1901 (by decide) ?_
  refine J_iadd dL_law_1902 ?_
  refine J_cald (z := L) (f := xs) dL_law_1903 hcon (li_in hi (by decide)) ?_
  refine J_callV (As := [.int (xs (i + 1).toNatClampNeg), .int (xs (i + 2).toNatClampNeg), .int (xs (i + 3).toNatClampNeg)]) (rest := []) dL_law_1904 (c_M_worst (d := 4) (u := u3) (g := g4) (ex := ex) (hill := (xs (i + 1).toNatClampNeg)) (plan := (xs (i + 2).toNatClampNeg)) (what := (xs (i + 3).toNatClampNeg))  (by decide) (my_c (fr11 167 rfl) a4_0) (ab_c (fr11 168 rfl) a4_1) (hd_c (fr11 168 rfl) a4_2) (hc_c (fr11 167 rfl) (fr11 168 rfl) a4_3) (pl_c (fr11 169 rfl) a4_4) (n0_c (fr11 172 rfl) a6_0) (dn_c (fr11 172 rfl) a6_1) (bd_r (congrFun (fr11 162 rfl) 22) f0) (bd_r (congrFun (fr11 162 rfl) 31) f1) (ab_c (fr11 177 rfl) a6_2)) hq.n k1770 k1771 k1772 wc_162 rfl rfl k97 k1773 np_X11_worst (Nat.le_trans (by decide) hd) (by decide) (lk1 hb) (ln1 hb) (wlk hk) rfl (Nat.le_of_ble_eq_true rfl) (fun r_ h_ p16 => ?_)
  obtain ⟨l17, u18, rfl, rfl, h19, h20, h21, h22, fr23, fc24⟩ := p16
  refine J_pop2_2 dL_law_1907 rfl ?_
  refine J_goto (tgt := 2255) dL_law_1908 (by decide) ?_
  exact K u18 g4 ex k n ⟨⟨(ig0_c (fun c hc => ((fr23 c (nin_rg hc rfl)).trans (fr11 c (nin_rg hc rfl)))) H0), (ig1_c (fun c hc => ((fr23 c (nin_rg hc rfl)).trans (fr11 c (nin_rg hc rfl)))) H1), (ig2_c (fun c hc => ((fr23 c (nin_rg hc rfl)).trans (fr11 c (nin_rg hc rfl)))) H2), ⟨(bd_r (congrFun (fr23 44 rfl) 0) h5), (bd_r (congrFun (fr23 44 rfl) 2) h6), (bd_r ((congrFun (fr23 49 rfl) 0).trans (congrFun (fr11 49 rfl) 0)) a3_2), (ab_c (fr23 45 rfl) h7), (km_c ((fr23 50 rfl).trans (fr11 50 rfl)) ((fr23 52 rfl).trans (fr11 52 rfl)) a3_4), (bd_r ((congrFun (fr23 53 rfl) 0).trans (congrFun (fr11 53 rfl) 0)) a3_5), (bd_r ((congrFun (fr23 53 rfl) 1).trans (congrFun (fr11 53 rfl) 1)) a3_6), (bd_r (congrFun (fr23 61 rfl) 0) h8), (bd_r (congrFun (fr23 61 rfl) 2) h9), (ab_c (fr23 66 rfl) h10), (bd_r ((congrFun (fr23 70 rfl) 0).trans (congrFun (fr11 70 rfl) 0)) a3_10), (bd_r ((congrFun (fr23 70 rfl) 2).trans (congrFun (fr11 70 rfl) 2)) a3_11), (bd_r ((congrFun (fr23 79 rfl) 0).trans (congrFun (fr11 79 rfl) 0)) a3_12), (bd_r ((congrFun (fr23 79 rfl) 2).trans (congrFun (fr11 79 rfl) 2)) a3_13), (bd_r ((congrFun (fr23 56 rfl) 5).trans (congrFun (fr11 56 rfl) 5)) a3_14), (ab_c ((fr23 77 rfl).trans (fr11 77 rfl)) a3_15), (ab_c ((fr23 76 rfl).trans (fr11 76 rfl)) a3_16)⟩, (ig4_c (fun c hc => ((fr23 c (nin_rg hc rfl)).trans (fr11 c (nin_rg hc rfl)))) H4), (ig5_c (fun c hc => ((fr23 c (nin_rg hc rfl)).trans (fr11 c (nin_rg hc rfl)))) H5), ⟨h21, h20, (ab_c ((fr23 177 rfl).trans (fr11 177 rfl)) a6_2), (ab_c ((fr23 178 rfl).trans (fr11 178 rfl)) a6_3), (ab_c ((fr23 179 rfl).trans (fr11 179 rfl)) a6_4)⟩, h19, h22, (bd_r ((fc24 12 (Nat.ne_of_beq_eq_false rfl) (Nat.ne_of_beq_eq_false rfl) (Nat.ne_of_beq_eq_false rfl) (Nat.ne_of_beq_eq_false rfl) (Nat.ne_of_beq_eq_false rfl) (Nat.ne_of_beq_eq_false rfl) (Nat.ne_of_beq_eq_false rfl) (Nat.ne_of_beq_eq_false rfl) (Nat.ne_of_beq_eq_false rfl) (Nat.ne_of_beq_eq_false rfl)).trans (congrFun (fr11 162 rfl) 12)) f2), (bd_r ((fc24 17 (Nat.ne_of_beq_eq_false rfl) (Nat.ne_of_beq_eq_false rfl) (Nat.ne_of_beq_eq_false rfl) (Nat.ne_of_beq_eq_false rfl) (Nat.ne_of_beq_eq_false rfl) (Nat.ne_of_beq_eq_false rfl) (Nat.ne_of_beq_eq_false rfl) (Nat.ne_of_beq_eq_false rfl) (Nat.ne_of_beq_eq_false rfl) (Nat.ne_of_beq_eq_false rfl)).trans (congrFun (fr11 162 rfl) 17)) f3)⟩, (rly_2 (fun c hc => ((fr23 c (nin_y2 hc rfl)).trans (fr11 c (nin_y2 hc rfl)))) hR)⟩ hk (Nat.le_succ _) (Nat.le_succ _)
set_option maxHeartbeats 4000000 in
set_option maxRecDepth 100000 in
theorem law_35 {x : JX} {bb L k n : Nat} {xs : Nat → Int32} {i : Int32} {u : Nat → Nat → Int32} {g : Nat → Nat → Int64} {ex : List MC} (hq : LQ x bb) (hcon : x.2.2.2.2.2.2.2.2.2.2.2.2.2.2.1 0 = some (L, xs)) (hi : LI i L) (hI : INX u) (hk : k = 182 + ex.length) (hb : k + 1 ≤ 600000 ∧ n + 1 ≤ 7302250) (hd : 11 ≤ 11) (K : ∀ (u2 : Nat → Nat → Int32) (g2 : Nat → Nat → Int64) (ex2 : List MC) (k2 n2 : Nat), INX u2 → k2 = 182 + ex2.length → k2 ≤ k + 1 → n2 ≤ n + 1 → J x yL_law code 4 ret 11 600000 7302250 0 2255 [(3, .int i), (2, .ref 162), (1, .ref 0), (0, .retAddr 0)] [] (Wd u2 g2 ex2) k2 n2) : J x yL_law code 4 ret 11 600000 7302250 0 1911 [(3, .int i), (2, .ref 162), (1, .ref 0), (0, .retAddr 0)] [] (Wd u g ex) k n := by
  obtain ⟨hI, hR⟩ := hI
  obtain ⟨H0, H1, H2, H3, H4, H5, H6, f0, f1, f2, f3⟩ := hI
  have X0 := H0
  obtain ⟨a0_0, a0_1, a0_2, a0_3, a0_4, a0_5, a0_6, a0_7, a0_8, a0_9, a0_10, a0_11, a0_12, a0_13, a0_14, a0_15⟩ := X0
  have X1 := H1
  obtain ⟨a1_0, a1_1, a1_2, a1_3, a1_4, a1_5, a1_6, a1_7, a1_8, a1_9, a1_10, a1_11, a1_12, a1_13, a1_14, a1_15, a1_16, a1_17, a1_18, a1_19, a1_20, a1_21, a1_22, a1_23, a1_24, a1_25, a1_26, a1_27, a1_28, a1_29, a1_30, a1_31, a1_32, a1_33, a1_34, a1_35, a1_36, a1_37, a1_38, a1_39, a1_40, a1_41, a1_42, a1_43, a1_44, a1_45, a1_46, a1_47⟩ := X1
  have X2 := H2
  obtain ⟨a2_0, a2_1, a2_2, a2_3, a2_4, a2_5⟩ := X2
  have X3 := H3
  obtain ⟨a3_0, a3_1, a3_2, a3_3, a3_4, a3_5, a3_6, a3_7, a3_8, a3_9, a3_10, a3_11, a3_12, a3_13, a3_14, a3_15, a3_16⟩ := X3
  have X4 := H4
  obtain ⟨a4_0, a4_1, a4_2, a4_3, a4_4, a4_5, a4_6⟩ := X4
  have X5 := H5
  obtain ⟨a5_0, a5_1⟩ := X5
  have X6 := H6
  obtain ⟨a6_0, a6_1, a6_2, a6_3, a6_4⟩ := X6
  refine J_aload_n (i := 1) (j := 2) dL_law_1911 rfl rfl ?_
  refine J_aload_nC (i := 0) (j := 3) dL_law_1912 rfl rfl ?_
  refine J_iload_n (i := 3) (j := 0) dL_law_1913 rfl rfl ?_
  refine J_iconst (v := 1) dL_law_1914 (by decide) ?_
  refine J_iadd dL_law_1915 ?_
  refine J_cald (z := L) (f := xs) dL_law_1916 hcon (li_in hi (by decide)) ?_
  refine J_aload_nC (i := 0) (j := 3) dL_law_1917 rfl rfl ?_
  refine J_iload_n (i := 3) (j := 0) dL_law_1918 rfl rfl ?_
  refine J_iconst (v := 2) dL_law_1919 (by decide) ?_
  refine J_iadd dL_law_1920 ?_
  refine J_cald (z := L) (f := xs) dL_law_1921 hcon (li_in hi (by decide)) ?_
  refine J_callV (As := [.int (xs (i + 1).toNatClampNeg), .int (xs (i + 2).toNatClampNeg)]) (rest := []) dL_law_1922 (c_P_flood (d := 6) (u := u) (g := g) (ex := ex) (hill := (xs (i + 1).toNatClampNeg)) (plan := (xs (i + 2).toNatClampNeg))  (by decide) a0_0 a0_5 a3_0 a3_1 a0_1 a0_2 a0_3 a0_4 a0_6 a0_7 a0_8 a3_2 a3_3 a0_9 a0_10 a0_11 a0_12 a0_13 a3_4 a3_7 a3_8 a3_9) hq.n k1199 k1200 k1201 wc_0 rfl rfl k87 k1202 np_X10_flood (Nat.le_trans (by decide) hd) (by decide) (lk1 hb) (ln1 hb) (wlk hk) rfl (Nat.le_of_ble_eq_true rfl) (fun r_ h_ p1 => ?_)
  obtain ⟨v2, u3, g4, rfl, rfl, h5, h6, h7, h8, h9, h10, fr11, fc12, fc13, fc14, fc15⟩ := p1
  refine J_pop dL_law_1925 rfl ?_
  refine J_aload_n (i := 2) (j := 1) dL_law_1926 rfl rfl ?_
  refine J_aload_nC (i := 0) (j := 3) dL_law_1927 rfl rfl ?_
  refine J_iload_n (i := 3) (j := 0) dL_law_1928 rfl rfl ?_
  refine J_iconst (v := 1) dL_law_1929 (by decide) ?_
  refine J_iadd dL_law_1930 ?_
  refine J_cald (z := L) (f := xs) dL_law_1931 hcon (li_in hi (by decide)) ?_
  refine J_aload_nC (i := 0) (j := 3) dL_law_1932 rfl rfl ?_
  refine J_iload_n (i := 3) (j := 0) dL_law_1933 rfl rfl ?_
  refine J_iconst (v := 2) dL_law_1934 (by decide) ?_
  refine J_iadd dL_law_1935 ?_
  refine J_cald (z := L) (f := xs) dL_law_1936 hcon (li_in hi (by decide)) ?_
  refine J_callV (As := [.int (xs (i + 1).toNatClampNeg), .int (xs (i + 2).toNatClampNeg)]) (rest := []) dL_law_1937 (c_M_flood (d := 4) (u := u3) (g := g4) (ex := ex) (hill := (xs (i + 1).toNatClampNeg)) (plan := (xs (i + 2).toNatClampNeg))  (by decide) (my_c (fr11 167 rfl) a4_0) (ab_c (fr11 168 rfl) a4_1) (hd_c (fr11 168 rfl) a4_2) (hc_c (fr11 167 rfl) (fr11 168 rfl) a4_3) (pl_c (fr11 169 rfl) a4_4) (n0_c (fr11 172 rfl) a6_0) (dn_c (fr11 172 rfl) a6_1) (bd_r (congrFun (fr11 162 rfl) 22) f0) (bd_r (congrFun (fr11 162 rfl) 31) f1) (ab_c (fr11 177 rfl) a6_2)) hq.n k1774 k1775 k1776 wc_162 rfl rfl k97 k1777 np_X11_flood (Nat.le_trans (by decide) hd) (by decide) (lk1 hb) (ln1 hb) (wlk hk) rfl (Nat.le_of_ble_eq_true rfl) (fun r_ h_ p16 => ?_)
  obtain ⟨v17, u18, rfl, rfl, h19, h20, h21, h22, fr23, fc24⟩ := p16
  refine J_pop dL_law_1940 rfl ?_
  refine J_goto (tgt := 2255) dL_law_1941 (by decide) ?_
  exact K u18 g4 ex k n ⟨⟨(ig0_c (fun c hc => ((fr23 c (nin_rg hc rfl)).trans (fr11 c (nin_rg hc rfl)))) H0), (ig1_c (fun c hc => ((fr23 c (nin_rg hc rfl)).trans (fr11 c (nin_rg hc rfl)))) H1), (ig2_c (fun c hc => ((fr23 c (nin_rg hc rfl)).trans (fr11 c (nin_rg hc rfl)))) H2), ⟨(bd_r (congrFun (fr23 44 rfl) 0) h5), (bd_r (congrFun (fr23 44 rfl) 2) h6), (bd_r ((congrFun (fr23 49 rfl) 0).trans (congrFun (fr11 49 rfl) 0)) a3_2), (ab_c (fr23 45 rfl) h7), (km_c ((fr23 50 rfl).trans (fr11 50 rfl)) ((fr23 52 rfl).trans (fr11 52 rfl)) a3_4), (bd_r ((congrFun (fr23 53 rfl) 0).trans (congrFun (fr11 53 rfl) 0)) a3_5), (bd_r ((congrFun (fr23 53 rfl) 1).trans (congrFun (fr11 53 rfl) 1)) a3_6), (bd_r (congrFun (fr23 61 rfl) 0) h8), (bd_r (congrFun (fr23 61 rfl) 2) h9), (ab_c (fr23 66 rfl) h10), (bd_r ((congrFun (fr23 70 rfl) 0).trans (congrFun (fr11 70 rfl) 0)) a3_10), (bd_r ((congrFun (fr23 70 rfl) 2).trans (congrFun (fr11 70 rfl) 2)) a3_11), (bd_r ((congrFun (fr23 79 rfl) 0).trans (congrFun (fr11 79 rfl) 0)) a3_12), (bd_r ((congrFun (fr23 79 rfl) 2).trans (congrFun (fr11 79 rfl) 2)) a3_13), (bd_r ((congrFun (fr23 56 rfl) 5).trans (congrFun (fr11 56 rfl) 5)) a3_14), (ab_c ((fr23 77 rfl).trans (fr11 77 rfl)) a3_15), (ab_c ((fr23 76 rfl).trans (fr11 76 rfl)) a3_16)⟩, (ig4_c (fun c hc => ((fr23 c (nin_rg hc rfl)).trans (fr11 c (nin_rg hc rfl)))) H4), (ig5_c (fun c hc => ((fr23 c (nin_rg hc rfl)).trans (fr11 c (nin_rg hc rfl)))) H5), ⟨h21, h20, (ab_c ((fr23 177 rfl).trans (fr11 177 rfl)) a6_2), (ab_c ((fr23 178 rfl).trans (fr11 178 rfl)) a6_3), (ab_c ((fr23 179 rfl).trans (fr11 179 rfl)) a6_4)⟩, h19, h22, (bd_r ((fc24 12 (Nat.ne_of_beq_eq_false rfl) (Nat.ne_of_beq_eq_false rfl) (Nat.ne_of_beq_eq_false rfl) (Nat.ne_of_beq_eq_false rfl) (Nat.ne_of_beq_eq_false rfl) (Nat.ne_of_beq_eq_false rfl) (Nat.ne_of_beq_eq_false rfl) (Nat.ne_of_beq_eq_false rfl) (Nat.ne_of_beq_eq_false rfl) (Nat.ne_of_beq_eq_false rfl)).trans (congrFun (fr11 162 rfl) 12)) f2), (bd_r ((fc24 17 (Nat.ne_of_beq_eq_false rfl) (Nat.ne_of_beq_eq_false rfl) (Nat.ne_of_beq_eq_false rfl) (Nat.ne_of_beq_eq_false rfl) (Nat.ne_of_beq_eq_false rfl) (Nat.ne_of_beq_eq_false rfl) (Nat.ne_of_beq_eq_false rfl) (Nat.ne_of_beq_eq_false rfl) (Nat.ne_of_beq_eq_false rfl) (Nat.ne_of_beq_eq_false rfl)).trans (congrFun (fr11 162 rfl) 17)) f3)⟩, (rly_2 (fun c hc => ((fr23 c (nin_y2 hc rfl)).trans (fr11 c (nin_y2 hc rfl)))) hR)⟩ hk (Nat.le_succ _) (Nat.le_succ _)
set_option maxHeartbeats 4000000 in
set_option maxRecDepth 100000 in
theorem law_36 {x : JX} {bb L k n : Nat} {xs : Nat → Int32} {i : Int32} {u : Nat → Nat → Int32} {g : Nat → Nat → Int64} {ex : List MC} (hq : LQ x bb) (hcon : x.2.2.2.2.2.2.2.2.2.2.2.2.2.2.1 0 = some (L, xs)) (hi : LI i L) (hI : INX u) (hk : k = 182 + ex.length) (hb : k + 1 ≤ 600000 ∧ n + 1 ≤ 7302250) (hd : 11 ≤ 11) (K : ∀ (u2 : Nat → Nat → Int32) (g2 : Nat → Nat → Int64) (ex2 : List MC) (k2 n2 : Nat), INX u2 → k2 = 182 + ex2.length → k2 ≤ k + 1 → n2 ≤ n + 1 → J x yL_law code 4 ret 11 600000 7302250 0 2255 [(3, .int i), (2, .ref 162), (1, .ref 0), (0, .retAddr 0)] [] (Wd u2 g2 ex2) k2 n2) : J x yL_law code 4 ret 11 600000 7302250 0 1944 [(3, .int i), (2, .ref 162), (1, .ref 0), (0, .retAddr 0)] [] (Wd u g ex) k n := by
  obtain ⟨hI, hR⟩ := hI
  obtain ⟨H0, H1, H2, H3, H4, H5, H6, f0, f1, f2, f3⟩ := hI
  have X0 := H0
  obtain ⟨a0_0, a0_1, a0_2, a0_3, a0_4, a0_5, a0_6, a0_7, a0_8, a0_9, a0_10, a0_11, a0_12, a0_13, a0_14, a0_15⟩ := X0
  have X1 := H1
  obtain ⟨a1_0, a1_1, a1_2, a1_3, a1_4, a1_5, a1_6, a1_7, a1_8, a1_9, a1_10, a1_11, a1_12, a1_13, a1_14, a1_15, a1_16, a1_17, a1_18, a1_19, a1_20, a1_21, a1_22, a1_23, a1_24, a1_25, a1_26, a1_27, a1_28, a1_29, a1_30, a1_31, a1_32, a1_33, a1_34, a1_35, a1_36, a1_37, a1_38, a1_39, a1_40, a1_41, a1_42, a1_43, a1_44, a1_45, a1_46, a1_47⟩ := X1
  have X2 := H2
  obtain ⟨a2_0, a2_1, a2_2, a2_3, a2_4, a2_5⟩ := X2
  have X3 := H3
  obtain ⟨a3_0, a3_1, a3_2, a3_3, a3_4, a3_5, a3_6, a3_7, a3_8, a3_9, a3_10, a3_11, a3_12, a3_13, a3_14, a3_15, a3_16⟩ := X3
  have X4 := H4
  obtain ⟨a4_0, a4_1, a4_2, a4_3, a4_4, a4_5, a4_6⟩ := X4
  have X5 := H5
  obtain ⟨a5_0, a5_1⟩ := X5
  have X6 := H6
  obtain ⟨a6_0, a6_1, a6_2, a6_3, a6_4⟩ := X6
  refine J_aload_n (i := 1) (j := 2) dL_law_1944 rfl rfl ?_
  refine J_aload_nC (i := 0) (j := 3) dL_law_1945 rfl rfl ?_
  refine J_iload_n (i := 3) (j := 0) dL_law_1946 rfl rfl ?_
  refine J_iconst (v := 1) dL_law_1947 (by decide) ?_
  refine J_iadd dL_law_1948 ?_
  refine J_cald (z := L) (f := xs) dL_law_1949 hcon (li_in hi (by decide)) ?_
  refine J_aload_nC (i := 0) (j := 3) dL_law_1950 rfl rfl ?_
  refine J_iload_n (i := 3) (j := 0) dL_law_1951 rfl rfl ?_
  refine J_iconst (v := 2) dL_law_1952 (by decide) ?_
  refine J_iadd dL_law_1953 ?_
  refine J_cald (z := L) (f := xs) dL_law_1954 hcon (li_in hi (by decide)) ?_
  refine J_aload_nC (i := 0) (j := 3) dL_law_1955 rfl rfl ?_
  refine J_iload_n (i := 3) (j := 0) dL_law_1956 rfl rfl ?_
  refine J_iconst (v := 3) dL_law_1957 (by decide) ?_
  refine J_iadd dL_law_1958 ?_
  refine J_cald (z := L) (f := xs) dL_law_1959 hcon (li_in hi (by decide)) ?_
  have jn3 : ∀ (w2 : Int32), Bd 0 1 w2 → J x yL_law code 4 ret 11 600000 7302250 0 1968 [(0, .retAddr 0), (1, .ref 0), (2, .ref 162), (3, .int i)] [.int w2, .int (xs (i + 2).toNatClampNeg), .int (xs (i + 1).toNatClampNeg), .ref 0] (Wd u g ex) k n := by
    intro w2 bw2
    refine J_callV (As := [.int (xs (i + 1).toNatClampNeg), .int (xs (i + 2).toNatClampNeg), .int w2]) (rest := []) dL_law_1968 (c_P_around (d := 6) (u := u) (g := g) (ex := ex) (hill := (xs (i + 1).toNatClampNeg)) (plan := (xs (i + 2).toNatClampNeg)) (second := w2)  (by decide) a0_0 a0_5 a3_0 a3_1 a0_1 a0_2 a0_3 a0_4 a0_6 a0_7 a0_8 a3_2 a3_3 a0_9 a0_10 a0_11 a0_12 a0_13 a3_4 a3_7 a3_8 a3_9 a3_10 a3_11) hq.n k1207 k1208 k1209 wc_0 rfl rfl k87 k1210 np_X10_around (Nat.le_trans (by decide) hd) (by decide) (lk1 hb) (ln1 hb) (wlk hk) rfl (Nat.le_of_ble_eq_true rfl) (fun r_ h_ p4 => ?_)
    obtain ⟨v5, u6, g7, rfl, rfl, h8, h9, h10, h11, h12, h13, h14, h15, fr16, fc17, fc18, fc19, fc20, fc21, fc22⟩ := p4
    refine J_pop dL_law_1971 rfl ?_
    refine J_aload_n (i := 2) (j := 2) dL_law_1972 rfl rfl ?_
    refine J_aload_nC (i := 0) (j := 0) dL_law_1973 rfl rfl ?_
    refine J_iload_n (i := 3) (j := 3) dL_law_1974 rfl rfl ?_
    refine J_iconst (v := 1) dL_law_1975 (by decide) ?_
    refine J_iadd dL_law_1976 ?_
    refine J_cald (z := L) (f := xs) dL_law_1977 hcon (li_in hi (by decide)) ?_
    refine J_aload_nC (i := 0) (j := 0) dL_law_1978 rfl rfl ?_
    refine J_iload_n (i := 3) (j := 3) dL_law_1979 rfl rfl ?_
    refine J_iconst (v := 2) dL_law_1980 (by decide) ?_
    refine J_iadd dL_law_1981 ?_
    refine J_cald (z := L) (f := xs) dL_law_1982 hcon (li_in hi (by decide)) ?_
    refine J_aload_nC (i := 0) (j := 0) dL_law_1983 rfl rfl ?_
    refine J_iload_n (i := 3) (j := 3) dL_law_1984 rfl rfl ?_
    refine J_iconst (v := 3) dL_law_1985 (by decide) ?_
    refine J_iadd dL_law_1986 ?_
    refine J_cald (z := L) (f := xs) dL_law_1987 hcon (li_in hi (by decide)) ?_
    have jn25 : ∀ (w24 : Int32), Bd 0 1 w24 → J x yL_law code 4 ret 11 600000 7302250 0 1996 [(0, .retAddr 0), (1, .ref 0), (2, .ref 162), (3, .int i)] [.int w24, .int (xs (i + 2).toNatClampNeg), .int (xs (i + 1).toNatClampNeg), .ref 162] (Wd u6 g7 ex) k n := by
      intro w24 bw24
      refine J_callV (As := [.int (xs (i + 1).toNatClampNeg), .int (xs (i + 2).toNatClampNeg), .int w24]) (rest := []) dL_law_1996 (c_M_around (d := 5) (u := u6) (g := g7) (ex := ex) (hill := (xs (i + 1).toNatClampNeg)) (plan := (xs (i + 2).toNatClampNeg)) (second := w24)  (by decide) (my_c (fr16 167 rfl) a4_0) (ab_c (fr16 168 rfl) a4_1) (hd_c (fr16 168 rfl) a4_2) (hc_c (fr16 167 rfl) (fr16 168 rfl) a4_3) (pl_c (fr16 169 rfl) a4_4) (n0_c (fr16 172 rfl) a6_0) (dn_c (fr16 172 rfl) a6_1) (bd_r (congrFun (fr16 162 rfl) 22) f0) (bd_r (congrFun (fr16 162 rfl) 31) f1) (ab_c (fr16 177 rfl) a6_2)) hq.n k1778 k1779 k1780 wc_162 rfl rfl k97 k1781 np_X11_around (Nat.le_trans (by decide) hd) (by decide) (lk1 hb) (ln1 hb) (wlk hk) rfl (Nat.le_of_ble_eq_true rfl) (fun r_ h_ p26 => ?_)
      obtain ⟨v27, u28, rfl, rfl, h29, h30, h31, h32, fr33, fc34⟩ := p26
      refine J_pop dL_law_1999 rfl ?_
      refine J_goto (tgt := 2255) dL_law_2000 (by decide) ?_
      refine J_lv [3, 2, 1, 0] rfl ?_
      exact K u28 g7 ex k n ⟨⟨(ig0_c (fun c hc => ((fr33 c (nin_rg hc rfl)).trans (fr16 c (nin_rg hc rfl)))) H0), (ig1_c (fun c hc => ((fr33 c (nin_rg hc rfl)).trans (fr16 c (nin_rg hc rfl)))) H1), (ig2_c (fun c hc => ((fr33 c (nin_rg hc rfl)).trans (fr16 c (nin_rg hc rfl)))) H2), ⟨(bd_r (congrFun (fr33 44 rfl) 0) h8), (bd_r (congrFun (fr33 44 rfl) 2) h9), (bd_r ((congrFun (fr33 49 rfl) 0).trans (congrFun (fr16 49 rfl) 0)) a3_2), (ab_c (fr33 45 rfl) h10), (km_c ((fr33 50 rfl).trans (fr16 50 rfl)) ((fr33 52 rfl).trans (fr16 52 rfl)) a3_4), (bd_r ((congrFun (fr33 53 rfl) 0).trans (congrFun (fr16 53 rfl) 0)) a3_5), (bd_r ((congrFun (fr33 53 rfl) 1).trans (congrFun (fr16 53 rfl) 1)) a3_6), (bd_r (congrFun (fr33 61 rfl) 0) h11), (bd_r (congrFun (fr33 61 rfl) 2) h12), (ab_c (fr33 66 rfl) h13), (bd_r (congrFun (fr33 70 rfl) 0) h14), (bd_r (congrFun (fr33 70 rfl) 2) h15), (bd_r ((congrFun (fr33 79 rfl) 0).trans (congrFun (fr16 79 rfl) 0)) a3_12), (bd_r ((congrFun (fr33 79 rfl) 2).trans (congrFun (fr16 79 rfl) 2)) a3_13), (bd_r ((congrFun (fr33 56 rfl) 5).trans (fc19 5 (Nat.ne_of_beq_eq_false rfl) (Nat.ne_of_beq_eq_false rfl))) a3_14), (ab_c ((fr33 77 rfl).trans (fr16 77 rfl)) a3_15), (ab_c ((fr33 76 rfl).trans (fr16 76 rfl)) a3_16)⟩, (ig4_c (fun c hc => ((fr33 c (nin_rg hc rfl)).trans (fr16 c (nin_rg hc rfl)))) H4), (ig5_c (fun c hc => ((fr33 c (nin_rg hc rfl)).trans (fr16 c (nin_rg hc rfl)))) H5), ⟨h31, h30, (ab_c ((fr33 177 rfl).trans (fr16 177 rfl)) a6_2), (ab_c ((fr33 178 rfl).trans (fr16 178 rfl)) a6_3), (ab_c ((fr33 179 rfl).trans (fr16 179 rfl)) a6_4)⟩, h29, h32, (bd_r ((fc34 12 (Nat.ne_of_beq_eq_false rfl) (Nat.ne_of_beq_eq_false rfl) (Nat.ne_of_beq_eq_false rfl) (Nat.ne_of_beq_eq_false rfl) (Nat.ne_of_beq_eq_false rfl) (Nat.ne_of_beq_eq_false rfl) (Nat.ne_of_beq_eq_false rfl) (Nat.ne_of_beq_eq_false rfl) (Nat.ne_of_beq_eq_false rfl) (Nat.ne_of_beq_eq_false rfl)).trans (congrFun (fr16 162 rfl) 12)) f2), (bd_r ((fc34 17 (Nat.ne_of_beq_eq_false rfl) (Nat.ne_of_beq_eq_false rfl) (Nat.ne_of_beq_eq_false rfl) (Nat.ne_of_beq_eq_false rfl) (Nat.ne_of_beq_eq_false rfl) (Nat.ne_of_beq_eq_false rfl) (Nat.ne_of_beq_eq_false rfl) (Nat.ne_of_beq_eq_false rfl) (Nat.ne_of_beq_eq_false rfl) (Nat.ne_of_beq_eq_false rfl)).trans (congrFun (fr16 162 rfl) 17)) f3)⟩, (rly_2 (fun c hc => ((fr33 c (nin_y2 hc rfl)).trans (fr16 c (nin_y2 hc rfl)))) hR)⟩ hk (Nat.le_succ _) (Nat.le_succ _)
    refine J_if_eq (tgt := 1995) dL_law_1988 (by decide) (fun c23 => ?_) (fun c23 => ?_)
    · refine J_iconst (v := 0) dL_law_1995 (by decide) ?_
      refine J_lv [0, 1, 2, 3] rfl ?_
      exact jn25 (0 : Int32) (bd_w (l := 0) (h := 1) (bd_c (v := 0) (lo := 0) (hi := 0) (by decide)) (by decide))
    · refine J_iconst (v := 1) dL_law_1991 (by decide) ?_
      refine J_goto (tgt := 1996) dL_law_1992 (by decide) ?_
      refine J_lv [0, 1, 2, 3] rfl ?_
      exact jn25 (1 : Int32) (bd_w (l := 0) (h := 1) (bd_c (v := 1) (lo := 1) (hi := 1) (by decide)) (by decide))
  refine J_if_eq (tgt := 1967) dL_law_1960 (by decide) (fun c1 => ?_) (fun c1 => ?_)
  · refine J_iconst (v := 0) dL_law_1967 (by decide) ?_
    refine J_lv [3, 2, 1, 0] rfl ?_
    exact jn3 (0 : Int32) (bd_w (l := 0) (h := 1) (bd_c (v := 0) (lo := 0) (hi := 0) (by decide)) (by decide))
  · refine J_iconst (v := 1) dL_law_1963 (by decide) ?_
    refine J_goto (tgt := 1968) dL_law_1964 (by decide) ?_
    refine J_lv [3, 2, 1, 0] rfl ?_
    exact jn3 (1 : Int32) (bd_w (l := 0) (h := 1) (bd_c (v := 1) (lo := 1) (hi := 1) (by decide)) (by decide))
set_option maxHeartbeats 4000000 in
set_option maxRecDepth 100000 in
theorem law_37 {x : JX} {bb L k n : Nat} {xs : Nat → Int32} {i : Int32} {u : Nat → Nat → Int32} {g : Nat → Nat → Int64} {ex : List MC} (hq : LQ x bb) (hcon : x.2.2.2.2.2.2.2.2.2.2.2.2.2.2.1 0 = some (L, xs)) (hi : LI i L) (hI : INX u) (hk : k = 182 + ex.length) (hb : k + 1 ≤ 600000 ∧ n + 1 ≤ 7302250) (hd : 11 ≤ 11) (K : ∀ (u2 : Nat → Nat → Int32) (g2 : Nat → Nat → Int64) (ex2 : List MC) (k2 n2 : Nat), INX u2 → k2 = 182 + ex2.length → k2 ≤ k + 1 → n2 ≤ n + 1 → J x yL_law code 4 ret 11 600000 7302250 0 2255 [(3, .int i), (2, .ref 162), (1, .ref 0), (0, .retAddr 0)] [] (Wd u2 g2 ex2) k2 n2) : J x yL_law code 4 ret 11 600000 7302250 0 2003 [(3, .int i), (2, .ref 162), (1, .ref 0), (0, .retAddr 0)] [] (Wd u g ex) k n := by
  obtain ⟨hI, hR⟩ := hI
  obtain ⟨H0, H1, H2, H3, H4, H5, H6, f0, f1, f2, f3⟩ := hI
  have X0 := H0
  obtain ⟨a0_0, a0_1, a0_2, a0_3, a0_4, a0_5, a0_6, a0_7, a0_8, a0_9, a0_10, a0_11, a0_12, a0_13, a0_14, a0_15⟩ := X0
  have X1 := H1
  obtain ⟨a1_0, a1_1, a1_2, a1_3, a1_4, a1_5, a1_6, a1_7, a1_8, a1_9, a1_10, a1_11, a1_12, a1_13, a1_14, a1_15, a1_16, a1_17, a1_18, a1_19, a1_20, a1_21, a1_22, a1_23, a1_24, a1_25, a1_26, a1_27, a1_28, a1_29, a1_30, a1_31, a1_32, a1_33, a1_34, a1_35, a1_36, a1_37, a1_38, a1_39, a1_40, a1_41, a1_42, a1_43, a1_44, a1_45, a1_46, a1_47⟩ := X1
  have X2 := H2
  obtain ⟨a2_0, a2_1, a2_2, a2_3, a2_4, a2_5⟩ := X2
  have X3 := H3
  obtain ⟨a3_0, a3_1, a3_2, a3_3, a3_4, a3_5, a3_6, a3_7, a3_8, a3_9, a3_10, a3_11, a3_12, a3_13, a3_14, a3_15, a3_16⟩ := X3
  have X4 := H4
  obtain ⟨a4_0, a4_1, a4_2, a4_3, a4_4, a4_5, a4_6⟩ := X4
  have X5 := H5
  obtain ⟨a5_0, a5_1⟩ := X5
  have X6 := H6
  obtain ⟨a6_0, a6_1, a6_2, a6_3, a6_4⟩ := X6
  refine J_aload_n (i := 1) (j := 2) dL_law_2003 rfl rfl ?_
  refine J_aload_nC (i := 0) (j := 3) dL_law_2004 rfl rfl ?_
  refine J_iload_n (i := 3) (j := 0) dL_law_2005 rfl rfl ?_
  refine J_iconst (v := 1) dL_law_2006 (by decide) ?_
  refine J_iadd dL_law_2007 ?_
  refine J_cald (z := L) (f := xs) dL_law_2008 hcon (li_in hi (by decide)) ?_
  refine J_aload_nC (i := 0) (j := 3) dL_law_2009 rfl rfl ?_
  refine J_iload_n (i := 3) (j := 0) dL_law_2010 rfl rfl ?_
  refine J_iconst (v := 2) dL_law_2011 (by decide) ?_
  refine J_iadd dL_law_2012 ?_
  refine J_cald (z := L) (f := xs) dL_law_2013 hcon (li_in hi (by decide)) ?_
  refine J_aload_nC (i := 0) (j := 3) dL_law_2014 rfl rfl ?_
  refine J_iload_n (i := 3) (j := 0) dL_law_2015 rfl rfl ?_
  refine J_iconst (v := 3) dL_law_2016 (by decide) ?_
  refine J_iadd dL_law_2017 ?_
  refine J_cald (z := L) (f := xs) dL_law_2018 hcon (li_in hi (by decide)) ?_
  refine J_aload_nC (i := 0) (j := 3) dL_law_2019 rfl rfl ?_
  refine J_iload_n (i := 3) (j := 0) dL_law_2020 rfl rfl ?_
  refine J_iconst (v := 4) dL_law_2021 (by decide) ?_
  refine J_iadd dL_law_2022 ?_
  refine J_cald (z := L) (f := xs) dL_law_2023 hcon (li_in hi (by decide)) ?_
  refine J_aload_nC (i := 0) (j := 3) dL_law_2024 rfl rfl ?_
  refine J_iload_n (i := 3) (j := 0) dL_law_2025 rfl rfl ?_
  refine J_iconst (v := 5) dL_law_2026 (by decide) ?_
  refine J_iadd dL_law_2027 ?_
  refine J_cald (z := L) (f := xs) dL_law_2028 hcon (li_in hi (by decide)) ?_
  refine J_aload_nC (i := 0) (j := 3) dL_law_2029 rfl rfl ?_
  refine J_iload_n (i := 3) (j := 0) dL_law_2030 rfl rfl ?_
  refine J_bipush (v := 6) dL_law_2031 (by decide) ?_
  refine J_iadd dL_law_2033 ?_
  refine J_cald (z := L) (f := xs) dL_law_2034 hcon (li_in hi (by decide)) ?_
  refine J_aload_nC (i := 0) (j := 3) dL_law_2035 rfl rfl ?_
  refine J_iload_n (i := 3) (j := 0) dL_law_2036 rfl rfl ?_
  refine J_bipush (v := 7) dL_law_2037 (by decide) ?_
  refine J_iadd dL_law_2039 ?_
  refine J_cald (z := L) (f := xs) dL_law_2040 hcon (li_in hi (by decide)) ?_
  refine J_callV (As := [.int (xs (i + 1).toNatClampNeg), .int (xs (i + 2).toNatClampNeg), .int (xs (i + 3).toNatClampNeg), .int (xs (i + 4).toNatClampNeg), .int (xs (i + 5).toNatClampNeg), .int (xs (i + 6).toNatClampNeg), .int (xs (i + 7).toNatClampNeg)]) (rest := []) dL_law_2041 (c_P_twice (d := 5) (u := u) (g := g) (ex := ex) (hill := (xs (i + 1).toNatClampNeg)) (plan := (xs (i + 2).toNatClampNeg)) (rain := (xs (i + 3).toNatClampNeg)) (banks := (xs (i + 4).toNatClampNeg)) (next := (xs (i + 5).toNatClampNeg)) (others := (xs (i + 6).toNatClampNeg)) (what := (xs (i + 7).toNatClampNeg))  (by decide) a0_0 a0_5 a3_0 a3_1 a0_1 a0_2 a0_3 a0_4 a0_6 a0_7 a0_8 a3_2 a3_3 a0_9 a0_10 a0_11 a0_12 a0_13 a3_4 a3_5 a3_6 a3_12 a3_13) hq.n k1216 k1217 k1218 wc_0 rfl rfl k87 k1219 np_X10_twice (Nat.le_trans (by decide) hd) (by decide) (lk1 hb) (ln1 hb) (wlk hk) rfl (Nat.le_of_ble_eq_true rfl) (fun r_ h_ p1 => ?_)
  obtain ⟨v2, u3, rfl, rfl, h4, h5, h6, h7, h8, h9, h10, fr11, fc12, fc13, fc14, fc15⟩ := p1
  refine J_pop dL_law_2044 rfl ?_
  refine J_aload_n (i := 2) (j := 1) dL_law_2045 rfl rfl ?_
  refine J_aload_nC (i := 0) (j := 3) dL_law_2046 rfl rfl ?_
  refine J_iload_n (i := 3) (j := 0) dL_law_2047 rfl rfl ?_
  refine J_iconst (v := 1) dL_law_2048 (by decide) ?_
  refine J_iadd dL_law_2049 ?_
  refine J_cald (z := L) (f := xs) dL_law_2050 hcon (li_in hi (by decide)) ?_
  refine J_aload_nC (i := 0) (j := 3) dL_law_2051 rfl rfl ?_
  refine J_iload_n (i := 3) (j := 0) dL_law_2052 rfl rfl ?_
  refine J_iconst (v := 2) dL_law_2053 (by decide) ?_
  refine J_iadd dL_law_2054 ?_
  refine J_cald (z := L) (f := xs) dL_law_2055 hcon (li_in hi (by decide)) ?_
  refine J_aload_nC (i := 0) (j := 3) dL_law_2056 rfl rfl ?_
  refine J_iload_n (i := 3) (j := 0) dL_law_2057 rfl rfl ?_
  refine J_iconst (v := 3) dL_law_2058 (by decide) ?_
  refine J_iadd dL_law_2059 ?_
  refine J_cald (z := L) (f := xs) dL_law_2060 hcon (li_in hi (by decide)) ?_
  refine J_aload_nC (i := 0) (j := 3) dL_law_2061 rfl rfl ?_
  refine J_iload_n (i := 3) (j := 0) dL_law_2062 rfl rfl ?_
  refine J_iconst (v := 4) dL_law_2063 (by decide) ?_
  refine J_iadd dL_law_2064 ?_
  refine J_cald (z := L) (f := xs) dL_law_2065 hcon (li_in hi (by decide)) ?_
  refine J_aload_nC (i := 0) (j := 3) dL_law_2066 rfl rfl ?_
  refine J_iload_n (i := 3) (j := 0) dL_law_2067 rfl rfl ?_
  refine J_iconst (v := 5) dL_law_2068 (by decide) ?_
  refine J_iadd dL_law_2069 ?_
  refine J_cald (z := L) (f := xs) dL_law_2070 hcon (li_in hi (by decide)) ?_
  refine J_aload_nC (i := 0) (j := 3) dL_law_2071 rfl rfl ?_
  refine J_iload_n (i := 3) (j := 0) dL_law_2072 rfl rfl ?_
  refine J_bipush (v := 6) dL_law_2073 (by decide) ?_
  refine J_iadd dL_law_2075 ?_
  refine J_cald (z := L) (f := xs) dL_law_2076 hcon (li_in hi (by decide)) ?_
  refine J_aload_nC (i := 0) (j := 3) dL_law_2077 rfl rfl ?_
  refine J_iload_n (i := 3) (j := 0) dL_law_2078 rfl rfl ?_
  refine J_bipush (v := 7) dL_law_2079 (by decide) ?_
  refine J_iadd dL_law_2081 ?_
  refine J_cald (z := L) (f := xs) dL_law_2082 hcon (li_in hi (by decide)) ?_
  refine J_callV (As := [.int (xs (i + 1).toNatClampNeg), .int (xs (i + 2).toNatClampNeg), .int (xs (i + 3).toNatClampNeg), .int (xs (i + 4).toNatClampNeg), .int (xs (i + 5).toNatClampNeg), .int (xs (i + 6).toNatClampNeg), .int (xs (i + 7).toNatClampNeg)]) (rest := []) dL_law_2083 (c_M_twice (d := 4) (u := u3) (g := g) (ex := ex) (hill := (xs (i + 1).toNatClampNeg)) (plan := (xs (i + 2).toNatClampNeg)) (rain := (xs (i + 3).toNatClampNeg)) (banks := (xs (i + 4).toNatClampNeg)) (next := (xs (i + 5).toNatClampNeg)) (others := (xs (i + 6).toNatClampNeg)) (what := (xs (i + 7).toNatClampNeg))  (by decide) (my_c (fr11 167 rfl) a4_0) (ab_c (fr11 168 rfl) a4_1) (hd_c (fr11 168 rfl) a4_2) (hc_c (fr11 167 rfl) (fr11 168 rfl) a4_3) (pl_c (fr11 169 rfl) a4_4) (n0_c (fr11 172 rfl) a6_0) (dn_c (fr11 172 rfl) a6_1) (bd_r (congrFun (fr11 162 rfl) 22) f0) (bd_r (congrFun (fr11 162 rfl) 31) f1) (ab_c (fr11 177 rfl) a6_2)) hq.n k1782 k1783 k1784 wc_162 rfl rfl k97 k1785 np_X11_twice (Nat.le_trans (by decide) hd) (by decide) (lk1 hb) (ln1 hb) (wlk hk) rfl (Nat.le_of_ble_eq_true rfl) (fun r_ h_ p16 => ?_)
  obtain ⟨v17, u18, rfl, rfl, h19, h20, h21, h22, fr23, fc24⟩ := p16
  refine J_pop dL_law_2086 rfl ?_
  refine J_goto (tgt := 2255) dL_law_2087 (by decide) ?_
  exact K u18 g ex k n ⟨⟨(ig0_c (fun c hc => ((fr23 c (nin_rg hc rfl)).trans (fr11 c (nin_rg hc rfl)))) H0), (ig1_c (fun c hc => ((fr23 c (nin_rg hc rfl)).trans (fr11 c (nin_rg hc rfl)))) H1), (ig2_c (fun c hc => ((fr23 c (nin_rg hc rfl)).trans (fr11 c (nin_rg hc rfl)))) H2), ⟨(bd_r (congrFun (fr23 44 rfl) 0) h4), (bd_r (congrFun (fr23 44 rfl) 2) h5), (bd_r ((congrFun (fr23 49 rfl) 0).trans (congrFun (fr11 49 rfl) 0)) a3_2), (ab_c (fr23 45 rfl) h6), (km_c ((fr23 50 rfl).trans (fr11 50 rfl)) ((fr23 52 rfl).trans (fr11 52 rfl)) a3_4), (bd_r (congrFun (fr23 53 rfl) 0) h7), (bd_r (congrFun (fr23 53 rfl) 1) h8), (bd_r ((congrFun (fr23 61 rfl) 0).trans (congrFun (fr11 61 rfl) 0)) a3_7), (bd_r ((congrFun (fr23 61 rfl) 2).trans (congrFun (fr11 61 rfl) 2)) a3_8), (ab_c ((fr23 66 rfl).trans (fr11 66 rfl)) a3_9), (bd_r ((congrFun (fr23 70 rfl) 0).trans (congrFun (fr11 70 rfl) 0)) a3_10), (bd_r ((congrFun (fr23 70 rfl) 2).trans (congrFun (fr11 70 rfl) 2)) a3_11), (bd_r (congrFun (fr23 79 rfl) 0) h9), (bd_r (congrFun (fr23 79 rfl) 2) h10), (bd_r ((congrFun (fr23 56 rfl) 5).trans (congrFun (fr11 56 rfl) 5)) a3_14), (ab_c ((fr23 77 rfl).trans (fr11 77 rfl)) a3_15), (ab_c ((fr23 76 rfl).trans (fr11 76 rfl)) a3_16)⟩, (ig4_c (fun c hc => ((fr23 c (nin_rg hc rfl)).trans (fr11 c (nin_rg hc rfl)))) H4), (ig5_c (fun c hc => ((fr23 c (nin_rg hc rfl)).trans (fr11 c (nin_rg hc rfl)))) H5), ⟨h21, h20, (ab_c ((fr23 177 rfl).trans (fr11 177 rfl)) a6_2), (ab_c ((fr23 178 rfl).trans (fr11 178 rfl)) a6_3), (ab_c ((fr23 179 rfl).trans (fr11 179 rfl)) a6_4)⟩, h19, h22, (bd_r ((fc24 12 (Nat.ne_of_beq_eq_false rfl) (Nat.ne_of_beq_eq_false rfl) (Nat.ne_of_beq_eq_false rfl) (Nat.ne_of_beq_eq_false rfl) (Nat.ne_of_beq_eq_false rfl) (Nat.ne_of_beq_eq_false rfl) (Nat.ne_of_beq_eq_false rfl) (Nat.ne_of_beq_eq_false rfl) (Nat.ne_of_beq_eq_false rfl) (Nat.ne_of_beq_eq_false rfl)).trans (congrFun (fr11 162 rfl) 12)) f2), (bd_r ((fc24 17 (Nat.ne_of_beq_eq_false rfl) (Nat.ne_of_beq_eq_false rfl) (Nat.ne_of_beq_eq_false rfl) (Nat.ne_of_beq_eq_false rfl) (Nat.ne_of_beq_eq_false rfl) (Nat.ne_of_beq_eq_false rfl) (Nat.ne_of_beq_eq_false rfl) (Nat.ne_of_beq_eq_false rfl) (Nat.ne_of_beq_eq_false rfl) (Nat.ne_of_beq_eq_false rfl)).trans (congrFun (fr11 162 rfl) 17)) f3)⟩, (rly_2 (fun c hc => ((fr23 c (nin_y2 hc rfl)).trans (fr11 c (nin_y2 hc rfl)))) hR)⟩ hk (Nat.le_succ _) (Nat.le_succ _)
set_option maxHeartbeats 4000000 in
set_option maxRecDepth 100000 in
theorem law_38 {x : JX} {bb L k n : Nat} {xs : Nat → Int32} {i : Int32} {u : Nat → Nat → Int32} {g : Nat → Nat → Int64} {ex : List MC} (hq : LQ x bb) (hcon : x.2.2.2.2.2.2.2.2.2.2.2.2.2.2.1 0 = some (L, xs)) (hi : LI i L) (hI : INX u) (hk : k = 182 + ex.length) (hb : k + 1 ≤ 600000 ∧ n + 1 ≤ 7302250) (hd : 11 ≤ 11) (K : ∀ (u2 : Nat → Nat → Int32) (g2 : Nat → Nat → Int64) (ex2 : List MC) (k2 n2 : Nat), INX u2 → k2 = 182 + ex2.length → k2 ≤ k + 1 → n2 ≤ n + 1 → J x yL_law code 4 ret 11 600000 7302250 0 2255 [(3, .int i), (2, .ref 162), (1, .ref 0), (0, .retAddr 0)] [] (Wd u2 g2 ex2) k2 n2) : J x yL_law code 4 ret 11 600000 7302250 0 2090 [(3, .int i), (2, .ref 162), (1, .ref 0), (0, .retAddr 0)] [] (Wd u g ex) k n := by
  obtain ⟨hI, hR⟩ := hI
  obtain ⟨H0, H1, H2, H3, H4, H5, H6, f0, f1, f2, f3⟩ := hI
  have X0 := H0
  obtain ⟨a0_0, a0_1, a0_2, a0_3, a0_4, a0_5, a0_6, a0_7, a0_8, a0_9, a0_10, a0_11, a0_12, a0_13, a0_14, a0_15⟩ := X0
  have X1 := H1
  obtain ⟨a1_0, a1_1, a1_2, a1_3, a1_4, a1_5, a1_6, a1_7, a1_8, a1_9, a1_10, a1_11, a1_12, a1_13, a1_14, a1_15, a1_16, a1_17, a1_18, a1_19, a1_20, a1_21, a1_22, a1_23, a1_24, a1_25, a1_26, a1_27, a1_28, a1_29, a1_30, a1_31, a1_32, a1_33, a1_34, a1_35, a1_36, a1_37, a1_38, a1_39, a1_40, a1_41, a1_42, a1_43, a1_44, a1_45, a1_46, a1_47⟩ := X1
  have X2 := H2
  obtain ⟨a2_0, a2_1, a2_2, a2_3, a2_4, a2_5⟩ := X2
  have X3 := H3
  obtain ⟨a3_0, a3_1, a3_2, a3_3, a3_4, a3_5, a3_6, a3_7, a3_8, a3_9, a3_10, a3_11, a3_12, a3_13, a3_14, a3_15, a3_16⟩ := X3
  have X4 := H4
  obtain ⟨a4_0, a4_1, a4_2, a4_3, a4_4, a4_5, a4_6⟩ := X4
  have X5 := H5
  obtain ⟨a5_0, a5_1⟩ := X5
  have X6 := H6
  obtain ⟨a6_0, a6_1, a6_2, a6_3, a6_4⟩ := X6
  refine J_aload_n (i := 1) (j := 2) dL_law_2090 rfl rfl ?_
  refine J_aload_nC (i := 0) (j := 3) dL_law_2091 rfl rfl ?_
  refine J_iload_n (i := 3) (j := 0) dL_law_2092 rfl rfl ?_
  refine J_iconst (v := 1) dL_law_2093 (by decide) ?_
  refine J_iadd dL_law_2094 ?_
  refine J_cald (z := L) (f := xs) dL_law_2095 hcon (li_in hi (by decide)) ?_
  refine J_aload_nC (i := 0) (j := 3) dL_law_2096 rfl rfl ?_
  refine J_iload_n (i := 3) (j := 0) dL_law_2097 rfl rfl ?_
  refine J_iconst (v := 2) dL_law_2098 (by decide) ?_
  refine J_iadd dL_law_2099 ?_
  refine J_cald (z := L) (f := xs) dL_law_2100 hcon (li_in hi (by decide)) ?_
  refine J_aload_nC (i := 0) (j := 3) dL_law_2101 rfl rfl ?_
  refine J_iload_n (i := 3) (j := 0) dL_law_2102 rfl rfl ?_
  refine J_iconst (v := 3) dL_law_2103 (by decide) ?_
  refine J_iadd dL_law_2104 ?_
  refine J_cald (z := L) (f := xs) dL_law_2105 hcon (li_in hi (by decide)) ?_
  refine J_callV (As := [.int (xs (i + 1).toNatClampNeg), .int (xs (i + 2).toNatClampNeg), .int (xs (i + 3).toNatClampNeg)]) (rest := []) dL_law_2106 (c_P_better (d := 5) (u := u) (g := g) (ex := ex) (hill := (xs (i + 1).toNatClampNeg)) (one := (xs (i + 2).toNatClampNeg)) (other := (xs (i + 3).toNatClampNeg))  (by decide) a0_0 a0_5 a3_0 a3_1 a0_1 a0_2 a0_3 a0_4 a0_6 a0_7 a0_8 a3_2 a3_3 a0_9 a0_10 a0_11 a0_12 a0_13 a3_4 a3_7 a3_8 a3_9) hq.n k1228 k1229 k1230 wc_0 rfl rfl k87 k1231 np_X10_better (Nat.le_trans (by decide) hd) (by decide) (lk1 hb) (ln1 hb) (wlk hk) rfl (Nat.le_of_ble_eq_true rfl) (fun r_ h_ p1 => ?_)
  obtain ⟨v2, u3, g4, rfl, rfl, h5, h6, h7, h8, h9, h10, fr11, fc12, fc13, fc14, fc15⟩ := p1
  refine J_pop dL_law_2109 rfl ?_
  refine J_aload_n (i := 2) (j := 1) dL_law_2110 rfl rfl ?_
  refine J_aload_nC (i := 0) (j := 3) dL_law_2111 rfl rfl ?_
  refine J_iload_n (i := 3) (j := 0) dL_law_2112 rfl rfl ?_
  refine J_iconst (v := 1) dL_law_2113 (by decide) ?_
  refine J_iadd dL_law_2114 ?_
  refine J_cald (z := L) (f := xs) dL_law_2115 hcon (li_in hi (by decide)) ?_
  refine J_aload_nC (i := 0) (j := 3) dL_law_2116 rfl rfl ?_
  refine J_iload_n (i := 3) (j := 0) dL_law_2117 rfl rfl ?_
  refine J_iconst (v := 2) dL_law_2118 (by decide) ?_
  refine J_iadd dL_law_2119 ?_
  refine J_cald (z := L) (f := xs) dL_law_2120 hcon (li_in hi (by decide)) ?_
  refine J_aload_nC (i := 0) (j := 3) dL_law_2121 rfl rfl ?_
  refine J_iload_n (i := 3) (j := 0) dL_law_2122 rfl rfl ?_
  refine J_iconst (v := 3) dL_law_2123 (by decide) ?_
  refine J_iadd dL_law_2124 ?_
  refine J_cald (z := L) (f := xs) dL_law_2125 hcon (li_in hi (by decide)) ?_
  refine J_callV (As := [.int (xs (i + 1).toNatClampNeg), .int (xs (i + 2).toNatClampNeg), .int (xs (i + 3).toNatClampNeg)]) (rest := []) dL_law_2126 (c_M_better (d := 5) (u := u3) (g := g4) (ex := ex) (hill := (xs (i + 1).toNatClampNeg)) (one := (xs (i + 2).toNatClampNeg)) (other := (xs (i + 3).toNatClampNeg))  (by decide) (my_c (fr11 167 rfl) a4_0) (ab_c (fr11 168 rfl) a4_1) (hd_c (fr11 168 rfl) a4_2) (hc_c (fr11 167 rfl) (fr11 168 rfl) a4_3) (pl_c (fr11 169 rfl) a4_4) (n0_c (fr11 172 rfl) a6_0) (dn_c (fr11 172 rfl) a6_1) (bd_r (congrFun (fr11 162 rfl) 22) f0) (bd_r (congrFun (fr11 162 rfl) 31) f1) (ab_c (fr11 177 rfl) a6_2)) hq.n k1786 k1787 k1788 wc_162 rfl rfl k97 k1789 np_X11_better (Nat.le_trans (by decide) hd) (by decide) (lk1 hb) (ln1 hb) (wlk hk) rfl (Nat.le_of_ble_eq_true rfl) (fun r_ h_ p16 => ?_)
  obtain ⟨v17, u18, rfl, rfl, h19, h20, h21, h22, fr23, fc24⟩ := p16
  refine J_pop dL_law_2129 rfl ?_
  refine J_goto (tgt := 2255) dL_law_2130 (by decide) ?_
  exact K u18 g4 ex k n ⟨⟨(ig0_c (fun c hc => ((fr23 c (nin_rg hc rfl)).trans (fr11 c (nin_rg hc rfl)))) H0), (ig1_c (fun c hc => ((fr23 c (nin_rg hc rfl)).trans (fr11 c (nin_rg hc rfl)))) H1), (ig2_c (fun c hc => ((fr23 c (nin_rg hc rfl)).trans (fr11 c (nin_rg hc rfl)))) H2), ⟨(bd_r (congrFun (fr23 44 rfl) 0) h5), (bd_r (congrFun (fr23 44 rfl) 2) h6), (bd_r ((congrFun (fr23 49 rfl) 0).trans (congrFun (fr11 49 rfl) 0)) a3_2), (ab_c (fr23 45 rfl) h7), (km_c ((fr23 50 rfl).trans (fr11 50 rfl)) ((fr23 52 rfl).trans (fr11 52 rfl)) a3_4), (bd_r ((congrFun (fr23 53 rfl) 0).trans (congrFun (fr11 53 rfl) 0)) a3_5), (bd_r ((congrFun (fr23 53 rfl) 1).trans (congrFun (fr11 53 rfl) 1)) a3_6), (bd_r (congrFun (fr23 61 rfl) 0) h8), (bd_r (congrFun (fr23 61 rfl) 2) h9), (ab_c (fr23 66 rfl) h10), (bd_r ((congrFun (fr23 70 rfl) 0).trans (congrFun (fr11 70 rfl) 0)) a3_10), (bd_r ((congrFun (fr23 70 rfl) 2).trans (congrFun (fr11 70 rfl) 2)) a3_11), (bd_r ((congrFun (fr23 79 rfl) 0).trans (congrFun (fr11 79 rfl) 0)) a3_12), (bd_r ((congrFun (fr23 79 rfl) 2).trans (congrFun (fr11 79 rfl) 2)) a3_13), (bd_r ((congrFun (fr23 56 rfl) 5).trans (congrFun (fr11 56 rfl) 5)) a3_14), (ab_c ((fr23 77 rfl).trans (fr11 77 rfl)) a3_15), (ab_c ((fr23 76 rfl).trans (fr11 76 rfl)) a3_16)⟩, (ig4_c (fun c hc => ((fr23 c (nin_rg hc rfl)).trans (fr11 c (nin_rg hc rfl)))) H4), (ig5_c (fun c hc => ((fr23 c (nin_rg hc rfl)).trans (fr11 c (nin_rg hc rfl)))) H5), ⟨h21, h20, (ab_c ((fr23 177 rfl).trans (fr11 177 rfl)) a6_2), (ab_c ((fr23 178 rfl).trans (fr11 178 rfl)) a6_3), (ab_c ((fr23 179 rfl).trans (fr11 179 rfl)) a6_4)⟩, h19, h22, (bd_r ((fc24 12 (Nat.ne_of_beq_eq_false rfl) (Nat.ne_of_beq_eq_false rfl) (Nat.ne_of_beq_eq_false rfl) (Nat.ne_of_beq_eq_false rfl) (Nat.ne_of_beq_eq_false rfl) (Nat.ne_of_beq_eq_false rfl) (Nat.ne_of_beq_eq_false rfl) (Nat.ne_of_beq_eq_false rfl) (Nat.ne_of_beq_eq_false rfl) (Nat.ne_of_beq_eq_false rfl)).trans (congrFun (fr11 162 rfl) 12)) f2), (bd_r ((fc24 17 (Nat.ne_of_beq_eq_false rfl) (Nat.ne_of_beq_eq_false rfl) (Nat.ne_of_beq_eq_false rfl) (Nat.ne_of_beq_eq_false rfl) (Nat.ne_of_beq_eq_false rfl) (Nat.ne_of_beq_eq_false rfl) (Nat.ne_of_beq_eq_false rfl) (Nat.ne_of_beq_eq_false rfl) (Nat.ne_of_beq_eq_false rfl) (Nat.ne_of_beq_eq_false rfl)).trans (congrFun (fr11 162 rfl) 17)) f3)⟩, (rly_2 (fun c hc => ((fr23 c (nin_y2 hc rfl)).trans (fr11 c (nin_y2 hc rfl)))) hR)⟩ hk (Nat.le_succ _) (Nat.le_succ _)
set_option maxHeartbeats 4000000 in
set_option maxRecDepth 100000 in
theorem law_39 {x : JX} {bb L k n : Nat} {xs : Nat → Int32} {i : Int32} {u : Nat → Nat → Int32} {g : Nat → Nat → Int64} {ex : List MC} (hq : LQ x bb) (hcon : x.2.2.2.2.2.2.2.2.2.2.2.2.2.2.1 0 = some (L, xs)) (hi : LI i L) (hI : INX u) (hk : k = 182 + ex.length) (hb : k + 1 ≤ 600000 ∧ n + 1 ≤ 7302250) (hd : 11 ≤ 11) (K : ∀ (u2 : Nat → Nat → Int32) (g2 : Nat → Nat → Int64) (ex2 : List MC) (k2 n2 : Nat), INX u2 → k2 = 182 + ex2.length → k2 ≤ k + 1 → n2 ≤ n + 1 → J x yL_law code 4 ret 11 600000 7302250 0 2255 [(3, .int i), (2, .ref 162), (1, .ref 0), (0, .retAddr 0)] [] (Wd u2 g2 ex2) k2 n2) : J x yL_law code 4 ret 11 600000 7302250 0 2133 [(3, .int i), (2, .ref 162), (1, .ref 0), (0, .retAddr 0)] [] (Wd u g ex) k n := by
  obtain ⟨hI, hR⟩ := hI
  obtain ⟨H0, H1, H2, H3, H4, H5, H6, f0, f1, f2, f3⟩ := hI
  have X0 := H0
  obtain ⟨a0_0, a0_1, a0_2, a0_3, a0_4, a0_5, a0_6, a0_7, a0_8, a0_9, a0_10, a0_11, a0_12, a0_13, a0_14, a0_15⟩ := X0
  have X1 := H1
  obtain ⟨a1_0, a1_1, a1_2, a1_3, a1_4, a1_5, a1_6, a1_7, a1_8, a1_9, a1_10, a1_11, a1_12, a1_13, a1_14, a1_15, a1_16, a1_17, a1_18, a1_19, a1_20, a1_21, a1_22, a1_23, a1_24, a1_25, a1_26, a1_27, a1_28, a1_29, a1_30, a1_31, a1_32, a1_33, a1_34, a1_35, a1_36, a1_37, a1_38, a1_39, a1_40, a1_41, a1_42, a1_43, a1_44, a1_45, a1_46, a1_47⟩ := X1
  have X2 := H2
  obtain ⟨a2_0, a2_1, a2_2, a2_3, a2_4, a2_5⟩ := X2
  have X3 := H3
  obtain ⟨a3_0, a3_1, a3_2, a3_3, a3_4, a3_5, a3_6, a3_7, a3_8, a3_9, a3_10, a3_11, a3_12, a3_13, a3_14, a3_15, a3_16⟩ := X3
  have X4 := H4
  obtain ⟨a4_0, a4_1, a4_2, a4_3, a4_4, a4_5, a4_6⟩ := X4
  have X5 := H5
  obtain ⟨a5_0, a5_1⟩ := X5
  have X6 := H6
  obtain ⟨a6_0, a6_1, a6_2, a6_3, a6_4⟩ := X6
  refine J_aload_n (i := 1) (j := 2) dL_law_2133 rfl rfl ?_
  refine J_aload_nC (i := 0) (j := 3) dL_law_2134 rfl rfl ?_
  refine J_iload_n (i := 3) (j := 0) dL_law_2135 rfl rfl ?_
  refine J_iconst (v := 1) dL_law_2136 (by decide) ?_
  refine J_iadd dL_law_2137 ?_
  refine J_cald (z := L) (f := xs) dL_law_2138 hcon (li_in hi (by decide)) ?_
  refine J_aload_nC (i := 0) (j := 3) dL_law_2139 rfl rfl ?_
  refine J_iload_n (i := 3) (j := 0) dL_law_2140 rfl rfl ?_
  refine J_iconst (v := 2) dL_law_2141 (by decide) ?_
  refine J_iadd dL_law_2142 ?_
  refine J_cald (z := L) (f := xs) dL_law_2143 hcon (li_in hi (by decide)) ?_
  refine J_aload_nC (i := 0) (j := 3) dL_law_2144 rfl rfl ?_
  refine J_iload_n (i := 3) (j := 0) dL_law_2145 rfl rfl ?_
  refine J_iconst (v := 3) dL_law_2146 (by decide) ?_
  refine J_iadd dL_law_2147 ?_
  refine J_cald (z := L) (f := xs) dL_law_2148 hcon (li_in hi (by decide)) ?_
  refine J_aload_nC (i := 0) (j := 3) dL_law_2149 rfl rfl ?_
  refine J_iload_n (i := 3) (j := 0) dL_law_2150 rfl rfl ?_
  refine J_iconst (v := 4) dL_law_2151 (by decide) ?_
  refine J_iadd dL_law_2152 ?_
  refine J_cald (z := L) (f := xs) dL_law_2153 hcon (li_in hi (by decide)) ?_
  refine J_callV (As := [.int (xs (i + 1).toNatClampNeg), .int (xs (i + 2).toNatClampNeg), .int (xs (i + 3).toNatClampNeg), .int (xs (i + 4).toNatClampNeg)]) (rest := []) dL_law_2154 (c_P_spendX (d := 6) (u := u) (g := g) (ex := ex) (hill := (xs (i + 1).toNatClampNeg)) (plan := (xs (i + 2).toNatClampNeg)) (ponds := (xs (i + 3).toNatClampNeg)) (mm := (xs (i + 4).toNatClampNeg))  (by decide) a0_0 a0_5 a3_0 a3_1 a0_1 a0_2 a0_3 a0_4 a0_6 a0_7 a0_8 a3_2 a3_3 a0_9 a0_10 a0_11 a0_12 a0_13 a3_4 a3_7 a3_8 a3_9) hq.n k1232 k1233 k1234 wc_0 rfl rfl k87 k1235 np_X10_spend (Nat.le_trans (by decide) hd) (by decide) (lk1 hb) (ln1 hb) (wlk hk) rfl (Nat.le_of_ble_eq_true rfl) (fun r_ h_ p1 => ?_)
  obtain ⟨v2, u3, g4, rfl, rfl, h5, h6, h7, h8, h9, h10, hx11, fr12, fc13, fc14, fc15, fc16⟩ := p1
  refine J_aload_n (i := 2) (j := 1) dL_law_2157 rfl rfl ?_
  refine J_aload_nC (i := 0) (j := 3) dL_law_2158 rfl rfl ?_
  refine J_iload_n (i := 3) (j := 0) dL_law_2159 rfl rfl ?_
  refine J_iconst (v := 1) dL_law_2160 (by decide) ?_
  refine J_iadd dL_law_2161 ?_
  refine J_cald (z := L) (f := xs) dL_law_2162 hcon (li_in hi (by decide)) ?_
  refine J_aload_nC (i := 0) (j := 3) dL_law_2163 rfl rfl ?_
  refine J_iload_n (i := 3) (j := 0) dL_law_2164 rfl rfl ?_
  refine J_iconst (v := 2) dL_law_2165 (by decide) ?_
  refine J_iadd dL_law_2166 ?_
  refine J_cald (z := L) (f := xs) dL_law_2167 hcon (li_in hi (by decide)) ?_
  refine J_aload_nC (i := 0) (j := 3) dL_law_2168 rfl rfl ?_
  refine J_iload_n (i := 3) (j := 0) dL_law_2169 rfl rfl ?_
  refine J_iconst (v := 3) dL_law_2170 (by decide) ?_
  refine J_iadd dL_law_2171 ?_
  refine J_cald (z := L) (f := xs) dL_law_2172 hcon (li_in hi (by decide)) ?_
  refine J_aload_nC (i := 0) (j := 3) dL_law_2173 rfl rfl ?_
  refine J_iload_n (i := 3) (j := 0) dL_law_2174 rfl rfl ?_
  refine J_iconst (v := 4) dL_law_2175 (by decide) ?_
  refine J_iadd dL_law_2176 ?_
  refine J_cald (z := L) (f := xs) dL_law_2177 hcon (li_in hi (by decide)) ?_
  refine J_callV (As := [.int (xs (i + 1).toNatClampNeg), .int (xs (i + 2).toNatClampNeg), .int (xs (i + 3).toNatClampNeg), .int (xs (i + 4).toNatClampNeg)]) (rest := [.int v2]) dL_law_2178 (c_M_spendX (d := 6) (u := u3) (g := g4) (ex := ex) (hill := (xs (i + 1).toNatClampNeg)) (plan := (xs (i + 2).toNatClampNeg)) (ponds := (xs (i + 3).toNatClampNeg)) (mm := (xs (i + 4).toNatClampNeg))  (by decide) (my_c (fr12 167 rfl) a4_0) (ab_c (fr12 168 rfl) a4_1) (hd_c (fr12 168 rfl) a4_2) (hc_c (fr12 167 rfl) (fr12 168 rfl) a4_3) (pl_c (fr12 169 rfl) a4_4) (n0_c (fr12 172 rfl) a6_0) (dn_c (fr12 172 rfl) a6_1) (bd_r (congrFun (fr12 162 rfl) 22) f0) (bd_r (congrFun (fr12 162 rfl) 31) f1) (ab_c (fr12 177 rfl) a6_2)) hq.n k1790 k1791 k1792 wc_162 rfl rfl k97 k1793 np_X11_spend (Nat.le_trans (by decide) hd) (by decide) (lk1 hb) (ln1 hb) (wlk hk) rfl (Nat.le_of_ble_eq_true rfl) (fun r_ h_ p17 => ?_)
  obtain ⟨v18, u19, rfl, rfl, h20, h21, h22, h23, h24, hx25, fr26, fc27⟩ := p17
  have fe := R5_spend (rly_v (fun c hc => (fr12 c (nin_v hc rfl))) hR) a0_0 a0_5 (hd_c (fr12 168 rfl) a4_2) (pl_c (fr12 169 rfl) a4_4) hx11 hx25
  refine J_icmp_eq (tgt := 2255) dL_law_2181 (by decide) (fun _ => ?_) (fun q => absurd fe q)
  exact K u19 g4 ex k n ⟨⟨(ig0_c (fun c hc => ((fr26 c (nin_rg hc rfl)).trans (fr12 c (nin_rg hc rfl)))) H0), (ig1_c (fun c hc => ((fr26 c (nin_rg hc rfl)).trans (fr12 c (nin_rg hc rfl)))) H1), (ig2_c (fun c hc => ((fr26 c (nin_rg hc rfl)).trans (fr12 c (nin_rg hc rfl)))) H2), ⟨(bd_r (congrFun (fr26 44 rfl) 0) h5), (bd_r (congrFun (fr26 44 rfl) 2) h6), (bd_r ((congrFun (fr26 49 rfl) 0).trans (congrFun (fr12 49 rfl) 0)) a3_2), (ab_c (fr26 45 rfl) h7), (km_c ((fr26 50 rfl).trans (fr12 50 rfl)) ((fr26 52 rfl).trans (fr12 52 rfl)) a3_4), (bd_r ((congrFun (fr26 53 rfl) 0).trans (congrFun (fr12 53 rfl) 0)) a3_5), (bd_r ((congrFun (fr26 53 rfl) 1).trans (congrFun (fr12 53 rfl) 1)) a3_6), (bd_r (congrFun (fr26 61 rfl) 0) h8), (bd_r (congrFun (fr26 61 rfl) 2) h9), (ab_c (fr26 66 rfl) h10), (bd_r ((congrFun (fr26 70 rfl) 0).trans (congrFun (fr12 70 rfl) 0)) a3_10), (bd_r ((congrFun (fr26 70 rfl) 2).trans (congrFun (fr12 70 rfl) 2)) a3_11), (bd_r ((congrFun (fr26 79 rfl) 0).trans (congrFun (fr12 79 rfl) 0)) a3_12), (bd_r ((congrFun (fr26 79 rfl) 2).trans (congrFun (fr12 79 rfl) 2)) a3_13), (bd_r ((congrFun (fr26 56 rfl) 5).trans (congrFun (fr12 56 rfl) 5)) a3_14), (ab_c ((fr26 77 rfl).trans (fr12 77 rfl)) a3_15), (ab_c ((fr26 76 rfl).trans (fr12 76 rfl)) a3_16)⟩, (ig4_c (fun c hc => ((fr26 c (nin_rg hc rfl)).trans (fr12 c (nin_rg hc rfl)))) H4), (ig5_c (fun c hc => ((fr26 c (nin_rg hc rfl)).trans (fr12 c (nin_rg hc rfl)))) H5), ⟨h22, h21, h24, (ab_c ((fr26 178 rfl).trans (fr12 178 rfl)) a6_3), (ab_c ((fr26 179 rfl).trans (fr12 179 rfl)) a6_4)⟩, h20, h23, (bd_r ((fc27 12 (Nat.ne_of_beq_eq_false rfl) (Nat.ne_of_beq_eq_false rfl) (Nat.ne_of_beq_eq_false rfl) (Nat.ne_of_beq_eq_false rfl) (Nat.ne_of_beq_eq_false rfl) (Nat.ne_of_beq_eq_false rfl) (Nat.ne_of_beq_eq_false rfl) (Nat.ne_of_beq_eq_false rfl) (Nat.ne_of_beq_eq_false rfl) (Nat.ne_of_beq_eq_false rfl)).trans (congrFun (fr12 162 rfl) 12)) f2), (bd_r ((fc27 17 (Nat.ne_of_beq_eq_false rfl) (Nat.ne_of_beq_eq_false rfl) (Nat.ne_of_beq_eq_false rfl) (Nat.ne_of_beq_eq_false rfl) (Nat.ne_of_beq_eq_false rfl) (Nat.ne_of_beq_eq_false rfl) (Nat.ne_of_beq_eq_false rfl) (Nat.ne_of_beq_eq_false rfl) (Nat.ne_of_beq_eq_false rfl) (Nat.ne_of_beq_eq_false rfl)).trans (congrFun (fr12 162 rfl) 17)) f3)⟩, (rly_2 (fun c hc => ((fr26 c (nin_y2 hc rfl)).trans (fr12 c (nin_y2 hc rfl)))) hR)⟩ hk (Nat.le_succ _) (Nat.le_succ _)
set_option maxHeartbeats 4000000 in
set_option maxRecDepth 100000 in
theorem law_40 {x : JX} {bb L k n : Nat} {xs : Nat → Int32} {i : Int32} {u : Nat → Nat → Int32} {g : Nat → Nat → Int64} {ex : List MC} (hq : LQ x bb) (hcon : x.2.2.2.2.2.2.2.2.2.2.2.2.2.2.1 0 = some (L, xs)) (hi : LI i L) (hI : INX u) (hk : k = 182 + ex.length) (hb : k + 1 ≤ 600000 ∧ n + 1 ≤ 7302250) (hd : 11 ≤ 11) (K : ∀ (u2 : Nat → Nat → Int32) (g2 : Nat → Nat → Int64) (ex2 : List MC) (k2 n2 : Nat), INX u2 → k2 = 182 + ex2.length → k2 ≤ k + 1 → n2 ≤ n + 1 → J x yL_law code 4 ret 11 600000 7302250 0 2255 [(3, .int i), (2, .ref 162), (1, .ref 0), (0, .retAddr 0)] [] (Wd u2 g2 ex2) k2 n2) : J x yL_law code 4 ret 11 600000 7302250 0 2186 [(3, .int i), (2, .ref 162), (1, .ref 0), (0, .retAddr 0)] [] (Wd u g ex) k n := by
  obtain ⟨hI, hR⟩ := hI
  obtain ⟨H0, H1, H2, H3, H4, H5, H6, f0, f1, f2, f3⟩ := hI
  have X0 := H0
  obtain ⟨a0_0, a0_1, a0_2, a0_3, a0_4, a0_5, a0_6, a0_7, a0_8, a0_9, a0_10, a0_11, a0_12, a0_13, a0_14, a0_15⟩ := X0
  have X1 := H1
  obtain ⟨a1_0, a1_1, a1_2, a1_3, a1_4, a1_5, a1_6, a1_7, a1_8, a1_9, a1_10, a1_11, a1_12, a1_13, a1_14, a1_15, a1_16, a1_17, a1_18, a1_19, a1_20, a1_21, a1_22, a1_23, a1_24, a1_25, a1_26, a1_27, a1_28, a1_29, a1_30, a1_31, a1_32, a1_33, a1_34, a1_35, a1_36, a1_37, a1_38, a1_39, a1_40, a1_41, a1_42, a1_43, a1_44, a1_45, a1_46, a1_47⟩ := X1
  have X2 := H2
  obtain ⟨a2_0, a2_1, a2_2, a2_3, a2_4, a2_5⟩ := X2
  have X3 := H3
  obtain ⟨a3_0, a3_1, a3_2, a3_3, a3_4, a3_5, a3_6, a3_7, a3_8, a3_9, a3_10, a3_11, a3_12, a3_13, a3_14, a3_15, a3_16⟩ := X3
  have X4 := H4
  obtain ⟨a4_0, a4_1, a4_2, a4_3, a4_4, a4_5, a4_6⟩ := X4
  have X5 := H5
  obtain ⟨a5_0, a5_1⟩ := X5
  have X6 := H6
  obtain ⟨a6_0, a6_1, a6_2, a6_3, a6_4⟩ := X6
  refine J_aload_n (i := 1) (j := 2) dL_law_2186 rfl rfl ?_
  refine J_aload_nC (i := 0) (j := 3) dL_law_2187 rfl rfl ?_
  refine J_iload_n (i := 3) (j := 0) dL_law_2188 rfl rfl ?_
  refine J_iconst (v := 1) dL_law_2189 (by decide) ?_
  refine J_iadd dL_law_2190 ?_
  refine J_cald (z := L) (f := xs) dL_law_2191 hcon (li_in hi (by decide)) ?_
  refine J_callV (As := [.int (xs (i + 1).toNatClampNeg)]) (rest := []) dL_law_2192 (c_P_count (d := 0) (u := u) (g := g) (ex := ex) (what := (xs (i + 1).toNatClampNeg))  (by decide) ) hq.n k1241 k1242 k1243 wc_0 rfl rfl k87 k1244 np_X10_count (Nat.le_trans (by decide) hd) (by decide) (lk1 hb) (ln1 hb) (wlk hk) rfl (Nat.le_of_ble_eq_true rfl) (fun r_ h_ p1 => ?_)
  obtain ⟨v2, rfl, rfl⟩ := p1
  refine J_pop dL_law_2195 rfl ?_
  refine J_aload_n (i := 2) (j := 1) dL_law_2196 rfl rfl ?_
  refine J_aload_nC (i := 0) (j := 3) dL_law_2197 rfl rfl ?_
  refine J_iload_n (i := 3) (j := 0) dL_law_2198 rfl rfl ?_
  refine J_iconst (v := 1) dL_law_2199 (by decide) ?_
  refine J_iadd dL_law_2200 ?_
  refine J_cald (z := L) (f := xs) dL_law_2201 hcon (li_in hi (by decide)) ?_
  refine J_callV (As := [.int (xs (i + 1).toNatClampNeg)]) (rest := []) dL_law_2202 (c_M_count (d := 1) (u := u) (g := g) (ex := ex) (what := (xs (i + 1).toNatClampNeg))  (by decide) ) hq.n k1794 k1795 k1796 wc_162 rfl rfl k97 k1797 np_X11_count (Nat.le_trans (by decide) hd) (by decide) (lk1 hb) (ln1 hb) (wlk hk) rfl (Nat.le_of_ble_eq_true rfl) (fun r_ h_ p3 => ?_)
  obtain ⟨v4, u5, rfl, rfl, fr6, fc7⟩ := p3
  refine J_pop dL_law_2205 rfl ?_
  refine J_goto (tgt := 2255) dL_law_2206 (by decide) ?_
  exact K u5 g ex k n ⟨⟨(ig0_c (fun c hc => (fr6 c (rne hc (by decide)))) H0), (ig1_c (fun c hc => (fr6 c (rne hc (by decide)))) H1), (ig2_c (fun c hc => (fr6 c (rne hc (by decide)))) H2), (ig3_c (fun c hc => (fr6 c (rne hc (by decide)))) H3), (ig4_c (fun c hc => (fr6 c (rne hc (by decide)))) H4), (ig5_c (fun c hc => (fr6 c (rne hc (by decide)))) H5), (ig6_c (fun c hc => (fr6 c (rne hc (by decide)))) H6), (bd_r (fc7 22 (Nat.ne_of_beq_eq_false rfl)) f0), (bd_r (fc7 31 (Nat.ne_of_beq_eq_false rfl)) f1), (bd_r (fc7 12 (Nat.ne_of_beq_eq_false rfl)) f2), (bd_r (fc7 17 (Nat.ne_of_beq_eq_false rfl)) f3)⟩, (rly_2 (fun c hc => (fr6 c (rn_y2 hc (by decide)))) hR)⟩ hk (Nat.le_succ _) (Nat.le_succ _)
set_option maxHeartbeats 4000000 in
set_option maxRecDepth 100000 in
theorem law_41 {x : JX} {bb L k n : Nat} {xs : Nat → Int32} {i : Int32} {u : Nat → Nat → Int32} {g : Nat → Nat → Int64} {ex : List MC} (hq : LQ x bb) (hcon : x.2.2.2.2.2.2.2.2.2.2.2.2.2.2.1 0 = some (L, xs)) (hi : LI i L) (hI : INX u) (hk : k = 182 + ex.length) (hb : k + 1 ≤ 600000 ∧ n + 1 ≤ 7302250) (hd : 11 ≤ 11) (K : ∀ (u2 : Nat → Nat → Int32) (g2 : Nat → Nat → Int64) (ex2 : List MC) (k2 n2 : Nat), INX u2 → k2 = 182 + ex2.length → k2 ≤ k + 1 → n2 ≤ n + 1 → J x yL_law code 4 ret 11 600000 7302250 0 2255 [(3, .int i), (2, .ref 162), (1, .ref 0), (0, .retAddr 0)] [] (Wd u2 g2 ex2) k2 n2) : J x yL_law code 4 ret 11 600000 7302250 0 2209 [(3, .int i), (2, .ref 162), (1, .ref 0), (0, .retAddr 0)] [] (Wd u g ex) k n := by
  obtain ⟨hI, hR⟩ := hI
  obtain ⟨H0, H1, H2, H3, H4, H5, H6, f0, f1, f2, f3⟩ := hI
  have X0 := H0
  obtain ⟨a0_0, a0_1, a0_2, a0_3, a0_4, a0_5, a0_6, a0_7, a0_8, a0_9, a0_10, a0_11, a0_12, a0_13, a0_14, a0_15⟩ := X0
  have X1 := H1
  obtain ⟨a1_0, a1_1, a1_2, a1_3, a1_4, a1_5, a1_6, a1_7, a1_8, a1_9, a1_10, a1_11, a1_12, a1_13, a1_14, a1_15, a1_16, a1_17, a1_18, a1_19, a1_20, a1_21, a1_22, a1_23, a1_24, a1_25, a1_26, a1_27, a1_28, a1_29, a1_30, a1_31, a1_32, a1_33, a1_34, a1_35, a1_36, a1_37, a1_38, a1_39, a1_40, a1_41, a1_42, a1_43, a1_44, a1_45, a1_46, a1_47⟩ := X1
  have X2 := H2
  obtain ⟨a2_0, a2_1, a2_2, a2_3, a2_4, a2_5⟩ := X2
  have X3 := H3
  obtain ⟨a3_0, a3_1, a3_2, a3_3, a3_4, a3_5, a3_6, a3_7, a3_8, a3_9, a3_10, a3_11, a3_12, a3_13, a3_14, a3_15, a3_16⟩ := X3
  have X4 := H4
  obtain ⟨a4_0, a4_1, a4_2, a4_3, a4_4, a4_5, a4_6⟩ := X4
  have X5 := H5
  obtain ⟨a5_0, a5_1⟩ := X5
  have X6 := H6
  obtain ⟨a6_0, a6_1, a6_2, a6_3, a6_4⟩ := X6
  refine J_aload_n (i := 1) (j := 2) dL_law_2209 rfl rfl ?_
  refine J_aload_nC (i := 0) (j := 3) dL_law_2210 rfl rfl ?_
  refine J_iload_n (i := 3) (j := 0) dL_law_2211 rfl rfl ?_
  refine J_iconst (v := 1) dL_law_2212 (by decide) ?_
  refine J_iadd dL_law_2213 ?_
  refine J_cald (z := L) (f := xs) dL_law_2214 hcon (li_in hi (by decide)) ?_
  refine J_callV (As := [.int (xs (i + 1).toNatClampNeg)]) (rest := []) dL_law_2215 (c_P_imageRX (d := 3) (u := u) (g := g) (ex := ex) (k := (xs (i + 1).toNatClampNeg))  (by decide) a0_14 a0_0 a0_5 a0_15 a0_1 a0_2 a0_3 a0_4 a0_9 a0_10 a0_6 a0_7 a0_8 a0_11 a0_12 a0_13 a1_0 a1_1 a1_2 a1_3 a1_4 a1_5 a1_6 a1_7 a1_8 a1_9 a1_10 a1_11 a1_12 a1_13 a1_14 a1_15 a1_16 a1_17 a1_18 a1_19 a1_20 a1_21 a1_22 a1_23 a1_24 a1_25 a1_26 a1_27 a1_28 a1_29 a1_30 a1_31 a1_32 a1_33 a1_34 a1_35 a1_36 a1_37 a1_38 a1_39 a1_40 a1_41 a1_42 a1_43 a1_44 a1_45 a1_46 a1_47) hq.n k1245 k1246 k1247 wc_0 rfl rfl k87 k1248 np_X10_image (Nat.le_trans (by decide) hd) (by decide) (lk1 hb) (ln1 hb) (wlk hk) rfl (Nat.le_of_ble_eq_true rfl) (fun r_ h_ p1 => ?_)
  obtain ⟨t2, u3, rfl, rfl, h4, h5, h6, h7, h8, h9, h10, h11, h12, h13, h14, h15, h16, h17, h18, h19, h20, h21, h22, h23, h24, h25, h26, h27, h28, h29, h30, h31, h32, h33, h34, h35, h36, h37, h38, h39, h40, h41, h42, h43, h44, h45, h46, h47, h48, h49, h50, h51, h52, h53, h54, h55, hx56, fr57, fc58, fc59, fc60, fc61, fc62, fc63, fc64, fc65, fc66, fc67, fc68, fc69, fc70, fc71, fc72, fc73, fc74, fc75⟩ := p1
  refine J_pop dL_law_2218 rfl ?_
  refine J_aload_n (i := 2) (j := 1) dL_law_2219 rfl rfl ?_
  refine J_aload_nC (i := 0) (j := 3) dL_law_2220 rfl rfl ?_
  refine J_iload_n (i := 3) (j := 0) dL_law_2221 rfl rfl ?_
  refine J_iconst (v := 1) dL_law_2222 (by decide) ?_
  refine J_iadd dL_law_2223 ?_
  refine J_cald (z := L) (f := xs) dL_law_2224 hcon (li_in hi (by decide)) ?_
  refine J_callV (As := [.int (xs (i + 1).toNatClampNeg)]) (rest := []) dL_law_2225 (c_M_imageRX (d := 2) (u := u3) (g := g) (ex := ex) (k := (xs (i + 1).toNatClampNeg))  (by decide) (ab_c (fr57 164 rfl) a4_5) (ab_c (fr57 168 rfl) a4_1) (ab_c (fr57 169 rfl) a4_6) (my_c (fr57 167 rfl) a4_0) (hd_c (fr57 168 rfl) a4_2) (hc_c (fr57 167 rfl) (fr57 168 rfl) a4_3) (pl_c (fr57 169 rfl) a4_4)) hq.n k1798 k1799 k1800 wc_162 rfl rfl k97 k1801 np_X11_image (Nat.le_trans (by decide) hd) (by decide) (lk1 hb) (ln1 hb) (wlk hk) rfl (Nat.le_of_ble_eq_true rfl) (fun r_ h_ p76 => ?_)
  obtain ⟨t77, u78, rfl, rfl, h79, h80, h81, h82, h83, h84, h85, h86, h87, h88, h89, hx90, fr91, fc92⟩ := p76
  refine J_pop dL_law_2228 rfl ?_
  refine J_goto (tgt := 2255) dL_law_2229 (by decide) ?_
  have fe := R4_image (rly_v (fun c hc => (fr57 c (nin_v hc rfl))) hR) a0_15 hx56 (fr57 49 rfl) hx90
  exact K u78 g ex k n ⟨⟨(ig0_c (fun c hc => ((fr91 c (nin_rg hc rfl)).trans (fr57 c (nin_rg hc rfl)))) H0), ⟨(bd_r (congrFun (fr91 84 rfl) 1) h5), (bd_r (congrFun (fr91 84 rfl) 5) h6), (bd_r (congrFun (fr91 84 rfl) 7) h7), (bf_c (fr91 85 rfl) h8), (bd_r (congrFun (fr91 88 rfl) 0) h9), (bd_r (congrFun (fr91 88 rfl) 2) h10), (bd_r (congrFun (fr91 93 rfl) 0) h11), (bd_r (congrFun (fr91 93 rfl) 2) h12), (ab_c (fr91 89 rfl) h13), (ab_c (fr91 94 rfl) h14), (bd_r (congrFun (fr91 98 rfl) 0) h15), (bd_r (congrFun (fr91 102 rfl) 0) h16), (bd_r (congrFun (fr91 106 rfl) 0) h17), (km_c (fr91 99 rfl) (fr91 101 rfl) h18), (km_c (fr91 103 rfl) (fr91 105 rfl) h19), (km_c (fr91 107 rfl) (fr91 109 rfl) h20), (bd_r (congrFun (fr91 110 rfl) 1) h21), (bd_r (congrFun (fr91 110 rfl) 5) h22), (bd_r (congrFun (fr91 110 rfl) 7) h23), (bf_c (fr91 111 rfl) h24), (bd_r (congrFun (fr91 114 rfl) 0) h25), (bd_r (congrFun (fr91 114 rfl) 2) h26), (bd_r (congrFun (fr91 119 rfl) 0) h27), (bd_r (congrFun (fr91 119 rfl) 2) h28), (ab_c (fr91 115 rfl) h29), (ab_c (fr91 120 rfl) h30), (bd_r (congrFun (fr91 124 rfl) 0) h31), (bd_r (congrFun (fr91 128 rfl) 0) h32), (bd_r (congrFun (fr91 132 rfl) 0) h33), (km_c (fr91 125 rfl) (fr91 127 rfl) h34), (km_c (fr91 129 rfl) (fr91 131 rfl) h35), (km_c (fr91 133 rfl) (fr91 135 rfl) h36), (bd_r (congrFun (fr91 136 rfl) 1) h37), (bd_r (congrFun (fr91 136 rfl) 5) h38), (bd_r (congrFun (fr91 136 rfl) 7) h39), (bf_c (fr91 137 rfl) h40), (bd_r (congrFun (fr91 140 rfl) 0) h41), (bd_r (congrFun (fr91 140 rfl) 2) h42), (bd_r (congrFun (fr91 145 rfl) 0) h43), (bd_r (congrFun (fr91 145 rfl) 2) h44), (ab_c (fr91 141 rfl) h45), (ab_c (fr91 146 rfl) h46), (bd_r (congrFun (fr91 150 rfl) 0) h47), (bd_r (congrFun (fr91 154 rfl) 0) h48), (bd_r (congrFun (fr91 158 rfl) 0) h49), (km_c (fr91 151 rfl) (fr91 153 rfl) h50), (km_c (fr91 155 rfl) (fr91 157 rfl) h51), (km_c (fr91 159 rfl) (fr91 161 rfl) h52)⟩, (ig2_c (fun c hc => ((fr91 c (nin_rg hc rfl)).trans (fr57 c (nin_rg hc rfl)))) H2), (ig3_c (fun c hc => ((fr91 c (nin_rg hc rfl)).trans (fr57 c (nin_rg hc rfl)))) H3), ⟨h83, h81, h84, h85, h86, h80, h82⟩, (ig5_c (fun c hc => ((fr91 c (nin_rg hc rfl)).trans (fr57 c (nin_rg hc rfl)))) H5), ⟨(n0_c ((fr91 172 rfl).trans (fr57 172 rfl)) a6_0), (dn_c ((fr91 172 rfl).trans (fr57 172 rfl)) a6_1), (ab_c ((fr91 177 rfl).trans (fr57 177 rfl)) a6_2), (ab_c ((fr91 178 rfl).trans (fr57 178 rfl)) a6_3), (ab_c ((fr91 179 rfl).trans (fr57 179 rfl)) a6_4)⟩, (bd_r ((fc92 22 (Nat.ne_of_beq_eq_false rfl)).trans (congrFun (fr57 162 rfl) 22)) f0), (bd_r ((fc92 31 (Nat.ne_of_beq_eq_false rfl)).trans (congrFun (fr57 162 rfl) 31)) f1), (bd_r ((fc92 12 (Nat.ne_of_beq_eq_false rfl)).trans (congrFun (fr57 162 rfl) 12)) f2), (bd_r ((fc92 17 (Nat.ne_of_beq_eq_false rfl)).trans (congrFun (fr57 162 rfl) 17)) f3)⟩, (rly_u (fun c hc => (fr91 c (nin_yu hc rfl))) fe.2)⟩ hk (Nat.le_succ _) (Nat.le_succ _)
set_option maxHeartbeats 4000000 in
set_option maxRecDepth 100000 in
theorem law_42 {x : JX} {bb L k n : Nat} {xs : Nat → Int32} {i : Int32} {u : Nat → Nat → Int32} {g : Nat → Nat → Int64} {ex : List MC} (hq : LQ x bb) (hcon : x.2.2.2.2.2.2.2.2.2.2.2.2.2.2.1 0 = some (L, xs)) (hi : LI i L) (hI : INX u) (hk : k = 182 + ex.length) (hb : k + 1 ≤ 600000 ∧ n + 1 ≤ 7302250) (hd : 11 ≤ 11) (K : ∀ (u2 : Nat → Nat → Int32) (g2 : Nat → Nat → Int64) (ex2 : List MC) (k2 n2 : Nat), INX u2 → k2 = 182 + ex2.length → k2 ≤ k + 1 → n2 ≤ n + 1 → J x yL_law code 4 ret 11 600000 7302250 0 2255 [(3, .int i), (2, .ref 162), (1, .ref 0), (0, .retAddr 0)] [] (Wd u2 g2 ex2) k2 n2) : J x yL_law code 4 ret 11 600000 7302250 0 2232 [(3, .int i), (2, .ref 162), (1, .ref 0), (0, .retAddr 0)] [] (Wd u g ex) k n := by
  obtain ⟨hI, hR⟩ := hI
  obtain ⟨H0, H1, H2, H3, H4, H5, H6, f0, f1, f2, f3⟩ := hI
  have X0 := H0
  obtain ⟨a0_0, a0_1, a0_2, a0_3, a0_4, a0_5, a0_6, a0_7, a0_8, a0_9, a0_10, a0_11, a0_12, a0_13, a0_14, a0_15⟩ := X0
  have X1 := H1
  obtain ⟨a1_0, a1_1, a1_2, a1_3, a1_4, a1_5, a1_6, a1_7, a1_8, a1_9, a1_10, a1_11, a1_12, a1_13, a1_14, a1_15, a1_16, a1_17, a1_18, a1_19, a1_20, a1_21, a1_22, a1_23, a1_24, a1_25, a1_26, a1_27, a1_28, a1_29, a1_30, a1_31, a1_32, a1_33, a1_34, a1_35, a1_36, a1_37, a1_38, a1_39, a1_40, a1_41, a1_42, a1_43, a1_44, a1_45, a1_46, a1_47⟩ := X1
  have X2 := H2
  obtain ⟨a2_0, a2_1, a2_2, a2_3, a2_4, a2_5⟩ := X2
  have X3 := H3
  obtain ⟨a3_0, a3_1, a3_2, a3_3, a3_4, a3_5, a3_6, a3_7, a3_8, a3_9, a3_10, a3_11, a3_12, a3_13, a3_14, a3_15, a3_16⟩ := X3
  have X4 := H4
  obtain ⟨a4_0, a4_1, a4_2, a4_3, a4_4, a4_5, a4_6⟩ := X4
  have X5 := H5
  obtain ⟨a5_0, a5_1⟩ := X5
  have X6 := H6
  obtain ⟨a6_0, a6_1, a6_2, a6_3, a6_4⟩ := X6
  refine J_aload_n (i := 1) (j := 2) dL_law_2232 rfl rfl ?_
  refine J_aload_nC (i := 0) (j := 3) dL_law_2233 rfl rfl ?_
  refine J_iload_n (i := 3) (j := 0) dL_law_2234 rfl rfl ?_
  refine J_iconst (v := 1) dL_law_2235 (by decide) ?_
  refine J_iadd dL_law_2236 ?_
  refine J_cald (z := L) (f := xs) dL_law_2237 hcon (li_in hi (by decide)) ?_
  refine J_callV (As := [.int (xs (i + 1).toNatClampNeg)]) (rest := []) dL_law_2238 (c_P_againRX (d := 3) (u := u) (g := g) (ex := ex) (k := (xs (i + 1).toNatClampNeg))  (by decide) a0_14 a0_0 a0_5 a0_15 a0_1 a0_2 a0_3 a0_4 a0_9 a0_10 a0_6 a0_7 a0_8 a0_11 a0_12 a0_13 a1_0 a1_1 a1_2 a1_3 a1_4 a1_5 a1_6 a1_7 a1_8 a1_9 a1_10 a1_11 a1_12 a1_13 a1_14 a1_15 a1_16 a1_17 a1_18 a1_19 a1_20 a1_21 a1_22 a1_23 a1_24 a1_25 a1_26 a1_27 a1_28 a1_29 a1_30 a1_31 a1_32 a1_33 a1_34 a1_35 a1_36 a1_37 a1_38 a1_39 a1_40 a1_41 a1_42 a1_43 a1_44 a1_45 a1_46 a1_47) hq.n k1254 k1255 k1256 wc_0 rfl rfl k87 k1257 np_X10_again (Nat.le_trans (by decide) hd) (by decide) (lk1 hb) (ln1 hb) (wlk hk) rfl (Nat.le_of_ble_eq_true rfl) (fun r_ h_ p1 => ?_)
  obtain ⟨t2, u3, rfl, rfl, h4, h5, h6, h7, h8, h9, h10, h11, h12, h13, h14, h15, h16, h17, h18, h19, h20, h21, h22, hx23, fr24, fc25, fc26, fc27, fc28, fc29, fc30⟩ := p1
  refine J_pop dL_law_2241 rfl ?_
  refine J_aload_n (i := 2) (j := 1) dL_law_2242 rfl rfl ?_
  refine J_aload_nC (i := 0) (j := 3) dL_law_2243 rfl rfl ?_
  refine J_iload_n (i := 3) (j := 0) dL_law_2244 rfl rfl ?_
  refine J_iconst (v := 1) dL_law_2245 (by decide) ?_
  refine J_iadd dL_law_2246 ?_
  refine J_cald (z := L) (f := xs) dL_law_2247 hcon (li_in hi (by decide)) ?_
  refine J_callV (As := [.int (xs (i + 1).toNatClampNeg)]) (rest := []) dL_law_2248 (c_M_againRX (d := 2) (u := u3) (g := g) (ex := ex) (k := (xs (i + 1).toNatClampNeg))  (by decide) (ab_c (fr24 164 rfl) a4_5) (ab_c (fr24 168 rfl) a4_1) (ab_c (fr24 169 rfl) a4_6) (my_c (fr24 167 rfl) a4_0) (hd_c (fr24 168 rfl) a4_2) (hc_c (fr24 167 rfl) (fr24 168 rfl) a4_3) (pl_c (fr24 169 rfl) a4_4)) hq.n k1809 k1810 k1811 wc_162 rfl rfl k97 k1812 np_X11_again (Nat.le_trans (by decide) hd) (by decide) (lk1 hb) (ln1 hb) (wlk hk) rfl (Nat.le_of_ble_eq_true rfl) (fun r_ h_ p31 => ?_)
  obtain ⟨t32, u33, rfl, rfl, h34, h35, h36, h37, h38, h39, h40, h41, h42, h43, hx44, fr45, fc46⟩ := p31
  refine J_pop dL_law_2251 rfl ?_
  refine J_goto (tgt := 2255) dL_law_2252 (by decide) ?_
  have fe := R4_again (rly_v (fun c hc => (fr24 c (nin_v hc rfl))) hR) (bf3 a1_3 a1_19 a1_35) hx23 (fr24 49 rfl) hx44
  exact K u33 g ex k n ⟨⟨⟨(bd_r (congrFun (fr45 1 rfl) 5) h6), (bd_r (congrFun (fr45 5 rfl) 0) h9), (bd_r (congrFun (fr45 5 rfl) 2) h10), (bd_r (congrFun (fr45 10 rfl) 0) h11), (bd_r (congrFun (fr45 10 rfl) 2) h12), (bd_r (congrFun (fr45 1 rfl) 7) h7), (bd_r (congrFun (fr45 15 rfl) 0) h15), (bd_r (congrFun (fr45 19 rfl) 0) h16), (bd_r (congrFun (fr45 23 rfl) 0) h17), (ab_c (fr45 6 rfl) h13), (ab_c (fr45 11 rfl) h14), (km_c (fr45 16 rfl) (fr45 18 rfl) h18), (km_c (fr45 20 rfl) (fr45 22 rfl) h19), (km_c (fr45 24 rfl) (fr45 26 rfl) h20), (bd_r (congrFun (fr45 1 rfl) 1) h5), (bf_c (fr45 2 rfl) h8)⟩, (ig1_c (fun c hc => ((fr45 c (nin_rg hc rfl)).trans (fr24 c (nin_rg hc rfl)))) H1), (ig2_c (fun c hc => ((fr45 c (nin_rg hc rfl)).trans (fr24 c (nin_rg hc rfl)))) H2), (ig3_c (fun c hc => ((fr45 c (nin_rg hc rfl)).trans (fr24 c (nin_rg hc rfl)))) H3), ⟨h38, h36, h39, h40, h41, h35, h37⟩, (ig5_c (fun c hc => ((fr45 c (nin_rg hc rfl)).trans (fr24 c (nin_rg hc rfl)))) H5), (ig6_c (fun c hc => ((fr45 c (nin_rg hc rfl)).trans (fr24 c (nin_rg hc rfl)))) H6), (bd_r ((fc46 22 (Nat.ne_of_beq_eq_false rfl)).trans (congrFun (fr24 162 rfl) 22)) f0), (bd_r ((fc46 31 (Nat.ne_of_beq_eq_false rfl)).trans (congrFun (fr24 162 rfl) 31)) f1), (bd_r ((fc46 12 (Nat.ne_of_beq_eq_false rfl)).trans (congrFun (fr24 162 rfl) 12)) f2), (bd_r ((fc46 17 (Nat.ne_of_beq_eq_false rfl)).trans (congrFun (fr24 162 rfl) 17)) f3)⟩, (rly_u (fun c hc => (fr45 c (nin_yu hc rfl))) fe.2)⟩ hk (Nat.le_succ _) (Nat.le_succ _)
