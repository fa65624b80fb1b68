set_option maxRecDepth 100000 in
theorem wg_702 : Cond.instanceMethod yX8_tasks ∈ lw_g := lg_in (List.mem_append_right _ (List.mem_of_getElem? (i := 702) rfl)) rfl
set_option maxRecDepth 100000 in
theorem wg_708 : Cond.code yX8_now prog_1_method_24_code 1 (some .int) ∈ lw_g := lg_in (List.mem_append_right _ (List.mem_of_getElem? (i := 708) rfl)) rfl
set_option maxRecDepth 100000 in
theorem wg_705 : Cond.methodLink "LoomkeeperLaw" 156 yX8_now ∈ lw_g := lg_in (List.mem_append_right _ (List.mem_of_getElem? (i := 705) rfl)) rfl
set_option maxRecDepth 100000 in
theorem wg_707 : Cond.selects "Loomkeeper" yX8_now yX8_now ∈ lw_g := lg_in (List.mem_append_right _ (List.mem_of_getElem? (i := 707) rfl)) rfl
set_option maxRecDepth 100000 in
theorem wg_706 : Cond.instanceMethod yX8_now ∈ lw_g := lg_in (List.mem_append_right _ (List.mem_of_getElem? (i := 706) rfl)) rfl
set_option maxRecDepth 100000 in
theorem wg_717 : Cond.code yX8_set prog_1_method_2_code 9 (some .int) ∈ lw_g := lg_in (List.mem_append_right _ (List.mem_of_getElem? (i := 717) rfl)) rfl
set_option maxRecDepth 100000 in
theorem wg_714 : Cond.methodLink "LoomkeeperLaw" 7 yX8_set ∈ lw_g := lg_in (List.mem_append_right _ (List.mem_of_getElem? (i := 714) rfl)) rfl
set_option maxRecDepth 100000 in
theorem wg_716 : Cond.selects "Loomkeeper" yX8_set yX8_set ∈ lw_g := lg_in (List.mem_append_right _ (List.mem_of_getElem? (i := 716) rfl)) rfl
set_option maxRecDepth 100000 in
theorem wg_715 : Cond.instanceMethod yX8_set ∈ lw_g := lg_in (List.mem_append_right _ (List.mem_of_getElem? (i := 715) rfl)) rfl
set_option maxRecDepth 100000 in
theorem wg_720 : Cond.code yX8_isBelow prog_1_method_25_code 2 (some .boolean) ∈ lw_g := lg_in (List.mem_append_right _ (List.mem_of_getElem? (i := 720) rfl)) rfl
set_option maxRecDepth 100000 in
theorem wg_718 : Cond.methodLink "Loomkeeper" 68 yX8_isBelow ∈ lw_g := lg_in (List.mem_append_right _ (List.mem_of_getElem? (i := 718) rfl)) rfl
set_option maxRecDepth 100000 in
theorem wg_719 : Cond.static yX8_isBelow ∈ lw_g := lg_in (List.mem_append_right _ (List.mem_of_getElem? (i := 719) rfl)) rfl
set_option maxRecDepth 100000 in
theorem wg_790 : Cond.code yX8_isStep prog_1_method_26_code 3 (some .boolean) ∈ lw_g := lg_in (List.mem_append_right _ (List.mem_of_getElem? (i := 790) rfl)) rfl
set_option maxRecDepth 100000 in
theorem wg_788 : Cond.methodLink "Loomkeeper" 79 yX8_isStep ∈ lw_g := lg_in (List.mem_append_right _ (List.mem_of_getElem? (i := 788) rfl)) rfl
set_option maxRecDepth 100000 in
theorem wg_789 : Cond.static yX8_isStep ∈ lw_g := lg_in (List.mem_append_right _ (List.mem_of_getElem? (i := 789) rfl)) rfl
set_option maxRecDepth 100000 in
theorem wg_810 : Cond.code yX4_put prog_6_method_2_code 5 (none : Option Jvm.ClassFile.FieldType) ∈ lw_g := lg_in (List.mem_append_right _ (List.mem_of_getElem? (i := 810) rfl)) rfl
set_option maxRecDepth 100000 in
theorem wg_807 : Cond.methodLink "Loomkeeper" 88 yX4_put ∈ lw_g := lg_in (List.mem_append_right _ (List.mem_of_getElem? (i := 807) rfl)) rfl
set_option maxRecDepth 100000 in
theorem wg_809 : Cond.selects "Loomkeeper$Program" yX4_put yX4_put ∈ lw_g := lg_in (List.mem_append_right _ (List.mem_of_getElem? (i := 809) rfl)) rfl
set_option maxRecDepth 100000 in
theorem wg_808 : Cond.instanceMethod yX4_put ∈ lw_g := lg_in (List.mem_append_right _ (List.mem_of_getElem? (i := 808) rfl)) rfl
set_option maxRecDepth 100000 in
theorem wg_814 : Cond.code yX8_findAgain prog_1_method_35_code 4 (none : Option Jvm.ClassFile.FieldType) ∈ lw_g := lg_in (List.mem_append_right _ (List.mem_of_getElem? (i := 814) rfl)) rfl
set_option maxRecDepth 100000 in
theorem wg_811 : Cond.methodLink "Loomkeeper" 92 yX8_findAgain ∈ lw_g := lg_in (List.mem_append_right _ (List.mem_of_getElem? (i := 811) rfl)) rfl
set_option maxRecDepth 100000 in
theorem ws_34 : Cond.selects RX8 yX8_findAgain yX8_findAgain ∈ lw_g := lg_in (List.mem_append_left _ (List.mem_of_getElem? (i := 34) rfl)) rfl
set_option maxRecDepth 100000 in
theorem wg_813 : Cond.instanceMethod yX8_findAgain ∈ lw_g := lg_in (List.mem_append_right _ (List.mem_of_getElem? (i := 813) rfl)) rfl
set_option maxRecDepth 100000 in
theorem wg_818 : Cond.code yX8_countAstray prog_1_method_33_code 5 (some .int) ∈ lw_g := lg_in (List.mem_append_right _ (List.mem_of_getElem? (i := 818) rfl)) rfl
set_option maxRecDepth 100000 in
theorem wg_815 : Cond.methodLink "Loomkeeper" 115 yX8_countAstray ∈ lw_g := lg_in (List.mem_append_right _ (List.mem_of_getElem? (i := 815) rfl)) rfl
set_option maxRecDepth 100000 in
theorem ws_35 : Cond.selects RX8 yX8_countAstray yX8_countAstray ∈ lw_g := lg_in (List.mem_append_left _ (List.mem_of_getElem? (i := 35) rfl)) rfl
set_option maxRecDepth 100000 in
theorem wg_817 : Cond.instanceMethod yX8_countAstray ∈ lw_g := lg_in (List.mem_append_right _ (List.mem_of_getElem? (i := 817) rfl)) rfl
set_option maxRecDepth 100000 in
theorem wg_825 : Cond.code yX8_check prog_1_method_3_code 13 (some .int) ∈ lw_g := lg_in (List.mem_append_right _ (List.mem_of_getElem? (i := 825) rfl)) rfl
set_option maxRecDepth 100000 in
theorem wg_822 : Cond.methodLink "LoomkeeperLaw" 17 yX8_check ∈ lw_g := lg_in (List.mem_append_right _ (List.mem_of_getElem? (i := 822) rfl)) rfl
set_option maxRecDepth 100000 in
theorem wg_824 : Cond.selects "Loomkeeper" yX8_check yX8_check ∈ lw_g := lg_in (List.mem_append_right _ (List.mem_of_getElem? (i := 824) rfl)) rfl
set_option maxRecDepth 100000 in
theorem wg_823 : Cond.instanceMethod yX8_check ∈ lw_g := lg_in (List.mem_append_right _ (List.mem_of_getElem? (i := 823) rfl)) rfl
set_option maxRecDepth 100000 in
theorem wg_826 : Cond.methodLink "Loomkeeper" 119 yX4_operation ∈ lw_g := lg_in (List.mem_append_right _ (List.mem_of_getElem? (i := 826) rfl)) rfl
set_option maxRecDepth 100000 in
theorem wg_827 : Cond.methodLink "Loomkeeper" 123 yX4_first ∈ lw_g := lg_in (List.mem_append_right _ (List.mem_of_getElem? (i := 827) rfl)) rfl
set_option maxRecDepth 100000 in
theorem wg_828 : Cond.methodLink "Loomkeeper" 126 yX4_second ∈ lw_g := lg_in (List.mem_append_right _ (List.mem_of_getElem? (i := 828) rfl)) rfl
set_option maxRecDepth 100000 in
theorem wg_832 : Cond.code yX8_replayed prog_1_method_32_code 2 (some (.object "Loomkeeper$Run")) ∈ lw_g := lg_in (List.mem_append_right _ (List.mem_of_getElem? (i := 832) rfl)) rfl
set_option maxRecDepth 100000 in
theorem wg_829 : Cond.methodLink "Loomkeeper" 129 yX8_replayed ∈ lw_g := lg_in (List.mem_append_right _ (List.mem_of_getElem? (i := 829) rfl)) rfl
set_option maxRecDepth 100000 in
theorem ws_36 : Cond.selects RX8 yX8_replayed yX8_replayed ∈ lw_g := lg_in (List.mem_append_left _ (List.mem_of_getElem? (i := 36) rfl)) rfl
set_option maxRecDepth 100000 in
theorem wg_831 : Cond.instanceMethod yX8_replayed ∈ lw_g := lg_in (List.mem_append_right _ (List.mem_of_getElem? (i := 831) rfl)) rfl
set_option maxRecDepth 100000 in
theorem wg_840 : Cond.code yX8_start prog_1_method_4_code 5 (some .int) ∈ lw_g := lg_in (List.mem_append_right _ (List.mem_of_getElem? (i := 840) rfl)) rfl
set_option maxRecDepth 100000 in
theorem wg_837 : Cond.methodLink "LoomkeeperLaw" 20 yX8_start ∈ lw_g := lg_in (List.mem_append_right _ (List.mem_of_getElem? (i := 837) rfl)) rfl
set_option maxRecDepth 100000 in
theorem wg_839 : Cond.selects "Loomkeeper" yX8_start yX8_start ∈ lw_g := lg_in (List.mem_append_right _ (List.mem_of_getElem? (i := 839) rfl)) rfl
set_option maxRecDepth 100000 in
theorem wg_838 : Cond.instanceMethod yX8_start ∈ lw_g := lg_in (List.mem_append_right _ (List.mem_of_getElem? (i := 838) rfl)) rfl
set_option maxRecDepth 100000 in
theorem wg_865 : Cond.code yX8_signal prog_1_method_5_code 5 (some .boolean) ∈ lw_g := lg_in (List.mem_append_right _ (List.mem_of_getElem? (i := 865) rfl)) rfl
set_option maxRecDepth 100000 in
theorem wg_862 : Cond.methodLink "LoomkeeperLaw" 26 yX8_signal ∈ lw_g := lg_in (List.mem_append_right _ (List.mem_of_getElem? (i := 862) rfl)) rfl
set_option maxRecDepth 100000 in
theorem wg_864 : Cond.selects "Loomkeeper" yX8_signal yX8_signal ∈ lw_g := lg_in (List.mem_append_right _ (List.mem_of_getElem? (i := 864) rfl)) rfl
set_option maxRecDepth 100000 in
theorem wg_863 : Cond.instanceMethod yX8_signal ∈ lw_g := lg_in (List.mem_append_right _ (List.mem_of_getElem? (i := 863) rfl)) rfl
set_option maxRecDepth 100000 in
theorem wg_872 : Cond.code yX8_send prog_1_method_36_code 5 (some .boolean) ∈ lw_g := lg_in (List.mem_append_right _ (List.mem_of_getElem? (i := 872) rfl)) rfl
set_option maxRecDepth 100000 in
theorem wg_869 : Cond.methodLink "Loomkeeper" 159 yX8_send ∈ lw_g := lg_in (List.mem_append_right _ (List.mem_of_getElem? (i := 869) rfl)) rfl
set_option maxRecDepth 100000 in
theorem ws_37 : Cond.selects RX8 yX8_send yX8_send ∈ lw_g := lg_in (List.mem_append_left _ (List.mem_of_getElem? (i := 37) rfl)) rfl
set_option maxRecDepth 100000 in
theorem wg_871 : Cond.instanceMethod yX8_send ∈ lw_g := lg_in (List.mem_append_right _ (List.mem_of_getElem? (i := 871) rfl)) rfl
set_option maxRecDepth 100000 in
theorem wg_879 : Cond.code yX8_cancel prog_1_method_6_code 3 (some .boolean) ∈ lw_g := lg_in (List.mem_append_right _ (List.mem_of_getElem? (i := 879) rfl)) rfl
set_option maxRecDepth 100000 in
theorem wg_876 : Cond.methodLink "LoomkeeperLaw" 30 yX8_cancel ∈ lw_g := lg_in (List.mem_append_right _ (List.mem_of_getElem? (i := 876) rfl)) rfl
set_option maxRecDepth 100000 in
theorem wg_878 : Cond.selects "Loomkeeper" yX8_cancel yX8_cancel ∈ lw_g := lg_in (List.mem_append_right _ (List.mem_of_getElem? (i := 878) rfl)) rfl
set_option maxRecDepth 100000 in
theorem wg_877 : Cond.instanceMethod yX8_cancel ∈ lw_g := lg_in (List.mem_append_right _ (List.mem_of_getElem? (i := 877) rfl)) rfl
set_option maxRecDepth 100000 in
theorem wg_886 : Cond.code yX8_reset prog_1_method_7_code 6 (some .int) ∈ lw_g := lg_in (List.mem_append_right _ (List.mem_of_getElem? (i := 886) rfl)) rfl
set_option maxRecDepth 100000 in
theorem wg_883 : Cond.methodLink "LoomkeeperLaw" 34 yX8_reset ∈ lw_g := lg_in (List.mem_append_right _ (List.mem_of_getElem? (i := 883) rfl)) rfl
set_option maxRecDepth 100000 in
theorem wg_885 : Cond.selects "Loomkeeper" yX8_reset yX8_reset ∈ lw_g := lg_in (List.mem_append_right _ (List.mem_of_getElem? (i := 885) rfl)) rfl
set_option maxRecDepth 100000 in
theorem wg_884 : Cond.instanceMethod yX8_reset ∈ lw_g := lg_in (List.mem_append_right _ (List.mem_of_getElem? (i := 884) rfl)) rfl
set_option maxRecDepth 100000 in
theorem wg_890 : Cond.code yX0_eventsAheadOfEnd prog_2_method_3_code 1 (some .int) ∈ lw_g := lg_in (List.mem_append_right _ (List.mem_of_getElem? (i := 890) rfl)) rfl
set_option maxRecDepth 100000 in
theorem wg_887 : Cond.methodLink "Loomkeeper" 163 yX0_eventsAheadOfEnd ∈ lw_g := lg_in (List.mem_append_right _ (List.mem_of_getElem? (i := 887) rfl)) rfl
set_option maxRecDepth 100000 in
theorem wg_889 : Cond.selects "Loomkeeper$Flow" yX0_eventsAheadOfEnd yX0_eventsAheadOfEnd ∈ lw_g := lg_in (List.mem_append_right _ (List.mem_of_getElem? (i := 889) rfl)) rfl
set_option maxRecDepth 100000 in
theorem wg_888 : Cond.instanceMethod yX0_eventsAheadOfEnd ∈ lw_g := lg_in (List.mem_append_right _ (List.mem_of_getElem? (i := 888) rfl)) rfl
set_option maxRecDepth 100000 in
theorem wg_895 : Cond.code yX8_canLead prog_1_method_44_code 3 (some .boolean) ∈ lw_g := lg_in (List.mem_append_right _ (List.mem_of_getElem? (i := 895) rfl)) rfl
set_option maxRecDepth 100000 in
theorem wg_892 : Cond.methodLink "Loomkeeper" 169 yX8_canLead ∈ lw_g := lg_in (List.mem_append_right _ (List.mem_of_getElem? (i := 892) rfl)) rfl
set_option maxRecDepth 100000 in
theorem ws_38 : Cond.selects RX8 yX8_canLead yX8_canLead ∈ lw_g := lg_in (List.mem_append_left _ (List.mem_of_getElem? (i := 38) rfl)) rfl
set_option maxRecDepth 100000 in
theorem wg_894 : Cond.instanceMethod yX8_canLead ∈ lw_g := lg_in (List.mem_append_right _ (List.mem_of_getElem? (i := 894) rfl)) rfl
set_option maxRecDepth 100000 in
theorem wg_899 : Cond.code yX8_openAgain prog_1_method_45_code 5 (some (.object "Loomkeeper$Flow")) ∈ lw_g := lg_in (List.mem_append_right _ (List.mem_of_getElem? (i := 899) rfl)) rfl
set_option maxRecDepth 100000 in
theorem wg_896 : Cond.methodLink "Loomkeeper" 173 yX8_openAgain ∈ lw_g := lg_in (List.mem_append_right _ (List.mem_of_getElem? (i := 896) rfl)) rfl
set_option maxRecDepth 100000 in
theorem ws_39 : Cond.selects RX8 yX8_openAgain yX8_openAgain ∈ lw_g := lg_in (List.mem_append_left _ (List.mem_of_getElem? (i := 39) rfl)) rfl
set_option maxRecDepth 100000 in
theorem wg_898 : Cond.instanceMethod yX8_openAgain ∈ lw_g := lg_in (List.mem_append_right _ (List.mem_of_getElem? (i := 898) rfl)) rfl
set_option maxRecDepth 100000 in
theorem wg_900 : Cond.methodLink "Loomkeeper" 189 yX1_numberAt ∈ lw_g := lg_in (List.mem_append_right _ (List.mem_of_getElem? (i := 900) rfl)) rfl
set_option maxRecDepth 100000 in
theorem wg_901 : Cond.methodLink "Loomkeeper" 186 yX1_kindAt ∈ lw_g := lg_in (List.mem_append_right _ (List.mem_of_getElem? (i := 901) rfl)) rfl
set_option maxRecDepth 100000 in
theorem wg_902 : Cond.methodLink "Loomkeeper" 301 yX5_waitsForActivity ∈ lw_g := lg_in (List.mem_append_right _ (List.mem_of_getElem? (i := 902) rfl)) rfl
set_option maxRecDepth 100000 in
theorem wg_910 : Cond.code yX8_complete prog_1_method_10_code 4 (some .boolean) ∈ lw_g := lg_in (List.mem_append_right _ (List.mem_of_getElem? (i := 910) rfl)) rfl
set_option maxRecDepth 100000 in
theorem wg_907 : Cond.methodLink "LoomkeeperLaw" 37 yX8_complete ∈ lw_g := lg_in (List.mem_append_right _ (List.mem_of_getElem? (i := 907) rfl)) rfl
set_option maxRecDepth 100000 in
theorem wg_909 : Cond.selects "Loomkeeper" yX8_complete yX8_complete ∈ lw_g := lg_in (List.mem_append_right _ (List.mem_of_getElem? (i := 909) rfl)) rfl
set_option maxRecDepth 100000 in
theorem wg_908 : Cond.instanceMethod yX8_complete ∈ lw_g := lg_in (List.mem_append_right _ (List.mem_of_getElem? (i := 908) rfl)) rfl
set_option maxRecDepth 100000 in
theorem wg_912 : Cond.methodLink "Loomkeeper" 229 yX7_finish ∈ lw_g := lg_in (List.mem_append_right _ (List.mem_of_getElem? (i := 912) rfl)) rfl
set_option maxRecDepth 100000 in
theorem wg_919 : Cond.code yX8_tick prog_1_method_13_code 3 (some .int) ∈ lw_g := lg_in (List.mem_append_right _ (List.mem_of_getElem? (i := 919) rfl)) rfl
set_option maxRecDepth 100000 in
theorem wg_916 : Cond.methodLink "LoomkeeperLaw" 41 yX8_tick ∈ lw_g := lg_in (List.mem_append_right _ (List.mem_of_getElem? (i := 916) rfl)) rfl
set_option maxRecDepth 100000 in
theorem wg_918 : Cond.selects "Loomkeeper" yX8_tick yX8_tick ∈ lw_g := lg_in (List.mem_append_right _ (List.mem_of_getElem? (i := 918) rfl)) rfl
set_option maxRecDepth 100000 in
theorem wg_917 : Cond.instanceMethod yX8_tick ∈ lw_g := lg_in (List.mem_append_right _ (List.mem_of_getElem? (i := 917) rfl)) rfl
set_option maxRecDepth 100000 in
theorem wg_924 : Cond.code yX8_passTasks prog_1_method_50_code 3 (none : Option Jvm.ClassFile.FieldType) ∈ lw_g := lg_in (List.mem_append_right _ (List.mem_of_getElem? (i := 924) rfl)) rfl
set_option maxRecDepth 100000 in
theorem wg_921 : Cond.methodLink "Loomkeeper" 240 yX8_passTasks ∈ lw_g := lg_in (List.mem_append_right _ (List.mem_of_getElem? (i := 921) rfl)) rfl
set_option maxRecDepth 100000 in
theorem ws_40 : Cond.selects RX8 yX8_passTasks yX8_passTasks ∈ lw_g := lg_in (List.mem_append_left _ (List.mem_of_getElem? (i := 40) rfl)) rfl
set_option maxRecDepth 100000 in
theorem wg_923 : Cond.instanceMethod yX8_passTasks ∈ lw_g := lg_in (List.mem_append_right _ (List.mem_of_getElem? (i := 923) rfl)) rfl
set_option maxRecDepth 100000 in
theorem wg_928 : Cond.code yX8_taskAt prog_1_method_29_code 2 (some (.object "Loomkeeper$Task")) ∈ lw_g := lg_in (List.mem_append_right _ (List.mem_of_getElem? (i := 928) rfl)) rfl
set_option maxRecDepth 100000 in
theorem wg_925 : Cond.methodLink "Loomkeeper" 265 yX8_taskAt ∈ lw_g := lg_in (List.mem_append_right _ (List.mem_of_getElem? (i := 925) rfl)) rfl
set_option maxRecDepth 100000 in
theorem ws_41 : Cond.selects RX8 yX8_taskAt yX8_taskAt ∈ lw_g := lg_in (List.mem_append_left _ (List.mem_of_getElem? (i := 41) rfl)) rfl
set_option maxRecDepth 100000 in
theorem wg_927 : Cond.instanceMethod yX8_taskAt ∈ lw_g := lg_in (List.mem_append_right _ (List.mem_of_getElem? (i := 927) rfl)) rfl
set_option maxRecDepth 100000 in
theorem wg_932 : Cond.code yJx4a65c_get_915e3 prog_26_method_20_code 2 (some (.object "java/lang/Object")) ∈ lw_g := lg_in (List.mem_append_right _ (List.mem_of_getElem? (i := 932) rfl)) rfl
set_option maxRecDepth 100000 in
theorem wg_929 : Cond.methodLink "Loomkeeper" 272 yJx4a65c_get_915e3 ∈ lw_g := lg_in (List.mem_append_right _ (List.mem_of_getElem? (i := 929) rfl)) rfl
set_option maxRecDepth 100000 in
theorem wg_931 : Cond.selects "java/util/ArrayList" yJx4a65c_get_915e3 yJx4a65c_get_915e3 ∈ lw_g := lg_in (List.mem_append_right _ (List.mem_of_getElem? (i := 931) rfl)) rfl
set_option maxRecDepth 100000 in
theorem wg_930 : Cond.instanceMethod yJx4a65c_get_915e3 ∈ lw_g := lg_in (List.mem_append_right _ (List.mem_of_getElem? (i := 930) rfl)) rfl
set_option maxRecDepth 100000 in
theorem wg_935 : Cond.code yJ15_checkIndex_7cf53 prog_30_method_17_code 2 (some .int) ∈ lw_g := lg_in (List.mem_append_right _ (List.mem_of_getElem? (i := 935) rfl)) rfl
set_option maxRecDepth 100000 in
theorem wg_933 : Cond.methodLink "java/util/ArrayList" 118 yJ15_checkIndex_7cf53 ∈ lw_g := lg_in (List.mem_append_right _ (List.mem_of_getElem? (i := 933) rfl)) rfl
set_option maxRecDepth 100000 in
theorem wg_24 : Cond.initialized "java/util/Objects" ∈ lw_g := lg_in (List.mem_append_right _ (List.mem_of_getElem? (i := 24) rfl)) rfl
set_option maxRecDepth 100000 in
theorem wg_934 : Cond.static yJ15_checkIndex_7cf53 ∈ lw_g := lg_in (List.mem_append_right _ (List.mem_of_getElem? (i := 934) rfl)) rfl
set_option maxRecDepth 100000 in
theorem wg_938 : Cond.code yJ3_checkIndex_8e157 prog_34_method_11_code 3 (some .int) ∈ lw_g := lg_in (List.mem_append_right _ (List.mem_of_getElem? (i := 938) rfl)) rfl
set_option maxRecDepth 100000 in
theorem wg_936 : Cond.methodLink "java/util/Objects" 105 yJ3_checkIndex_8e157 ∈ lw_g := lg_in (List.mem_append_right _ (List.mem_of_getElem? (i := 936) rfl)) rfl
set_option maxRecDepth 100000 in
theorem wg_25 : Cond.initialized "jdk/internal/util/Preconditions" ∈ lw_g := lg_in (List.mem_append_right _ (List.mem_of_getElem? (i := 25) rfl)) rfl
set_option maxRecDepth 100000 in
theorem wg_937 : Cond.static yJ3_checkIndex_8e157 ∈ lw_g := lg_in (List.mem_append_right _ (List.mem_of_getElem? (i := 937) rfl)) rfl
set_option maxRecDepth 100000 in
theorem wg_942 : Cond.code yJx4a65c_elementData_915e3 prog_26_method_18_code 2 (some (.object "java/lang/Object")) ∈ lw_g := lg_in (List.mem_append_right _ (List.mem_of_getElem? (i := 942) rfl)) rfl
set_option maxRecDepth 100000 in
theorem wg_939 : Cond.methodLink "java/util/ArrayList" 123 yJx4a65c_elementData_915e3 ∈ lw_g := lg_in (List.mem_append_right _ (List.mem_of_getElem? (i := 939) rfl)) rfl
set_option maxRecDepth 100000 in
theorem wg_941 : Cond.selects "java/util/ArrayList" yJx4a65c_elementData_915e3 yJx4a65c_elementData_915e3 ∈ lw_g := lg_in (List.mem_append_right _ (List.mem_of_getElem? (i := 941) rfl)) rfl
set_option maxRecDepth 100000 in
theorem wg_940 : Cond.instanceMethod yJx4a65c_elementData_915e3 ∈ lw_g := lg_in (List.mem_append_right _ (List.mem_of_getElem? (i := 940) rfl)) rfl
set_option maxRecDepth 100000 in
theorem wg_946 : Cond.code yX7_isDue prog_9_method_7_code 2 (some .boolean) ∈ lw_g := lg_in (List.mem_append_right _ (List.mem_of_getElem? (i := 946) rfl)) rfl
set_option maxRecDepth 100000 in
theorem wg_943 : Cond.methodLink "Loomkeeper" 420 yX7_isDue ∈ lw_g := lg_in (List.mem_append_right _ (List.mem_of_getElem? (i := 943) rfl)) rfl
set_option maxRecDepth 100000 in
theorem wg_945 : Cond.selects "Loomkeeper$Task" yX7_isDue yX7_isDue ∈ lw_g := lg_in (List.mem_append_right _ (List.mem_of_getElem? (i := 945) rfl)) rfl
set_option maxRecDepth 100000 in
theorem wg_944 : Cond.instanceMethod yX7_isDue ∈ lw_g := lg_in (List.mem_append_right _ (List.mem_of_getElem? (i := 944) rfl)) rfl
set_option maxRecDepth 100000 in
theorem wg_950 : Cond.code yX7_pass prog_9_method_8_code 2 (none : Option Jvm.ClassFile.FieldType) ∈ lw_g := lg_in (List.mem_append_right _ (List.mem_of_getElem? (i := 950) rfl)) rfl
set_option maxRecDepth 100000 in
theorem wg_947 : Cond.methodLink "Loomkeeper" 423 yX7_pass ∈ lw_g := lg_in (List.mem_append_right _ (List.mem_of_getElem? (i := 947) rfl)) rfl
set_option maxRecDepth 100000 in
theorem wg_949 : Cond.selects "Loomkeeper$Task" yX7_pass yX7_pass ∈ lw_g := lg_in (List.mem_append_right _ (List.mem_of_getElem? (i := 949) rfl)) rfl
set_option maxRecDepth 100000 in
theorem wg_948 : Cond.instanceMethod yX7_pass ∈ lw_g := lg_in (List.mem_append_right _ (List.mem_of_getElem? (i := 948) rfl)) rfl
set_option maxRecDepth 100000 in
theorem wg_951 : Cond.methodLink "Loomkeeper$Task" 68 yX7_loseTry ∈ lw_g := lg_in (List.mem_append_right _ (List.mem_of_getElem? (i := 951) rfl)) rfl
set_option maxRecDepth 100000 in
theorem wg_955 : Cond.code yX8_passTimers prog_1_method_51_code 3 (none : Option Jvm.ClassFile.FieldType) ∈ lw_g := lg_in (List.mem_append_right _ (List.mem_of_getElem? (i := 955) rfl)) rfl
set_option maxRecDepth 100000 in
theorem wg_952 : Cond.methodLink "Loomkeeper" 243 yX8_passTimers ∈ lw_g := lg_in (List.mem_append_right _ (List.mem_of_getElem? (i := 952) rfl)) rfl
set_option maxRecDepth 100000 in
theorem ws_42 : Cond.selects RX8 yX8_passTimers yX8_passTimers ∈ lw_g := lg_in (List.mem_append_left _ (List.mem_of_getElem? (i := 42) rfl)) rfl
set_option maxRecDepth 100000 in
theorem wg_954 : Cond.instanceMethod yX8_passTimers ∈ lw_g := lg_in (List.mem_append_right _ (List.mem_of_getElem? (i := 954) rfl)) rfl
set_option maxRecDepth 100000 in
theorem wg_959 : Cond.code yX5_isDue prog_7_method_5_code 2 (some .boolean) ∈ lw_g := lg_in (List.mem_append_right _ (List.mem_of_getElem? (i := 959) rfl)) rfl
set_option maxRecDepth 100000 in
theorem wg_956 : Cond.methodLink "Loomkeeper" 426 yX5_isDue ∈ lw_g := lg_in (List.mem_append_right _ (List.mem_of_getElem? (i := 956) rfl)) rfl
set_option maxRecDepth 100000 in
theorem wg_958 : Cond.selects "Loomkeeper$Run" yX5_isDue yX5_isDue ∈ lw_g := lg_in (List.mem_append_right _ (List.mem_of_getElem? (i := 958) rfl)) rfl
set_option maxRecDepth 100000 in
theorem wg_957 : Cond.instanceMethod yX5_isDue ∈ lw_g := lg_in (List.mem_append_right _ (List.mem_of_getElem? (i := 957) rfl)) rfl
set_option maxRecDepth 100000 in
theorem wg_966 : Cond.code yX8_state prog_1_method_15_code 3 (some .int) ∈ lw_g := lg_in (List.mem_append_right _ (List.mem_of_getElem? (i := 966) rfl)) rfl
set_option maxRecDepth 100000 in
theorem wg_963 : Cond.methodLink "LoomkeeperLaw" 45 yX8_state ∈ lw_g := lg_in (List.mem_append_right _ (List.mem_of_getElem? (i := 963) rfl)) rfl
set_option maxRecDepth 100000 in
theorem wg_965 : Cond.selects "Loomkeeper" yX8_state yX8_state ∈ lw_g := lg_in (List.mem_append_right _ (List.mem_of_getElem? (i := 965) rfl)) rfl
set_option maxRecDepth 100000 in
theorem wg_964 : Cond.instanceMethod yX8_state ∈ lw_g := lg_in (List.mem_append_right _ (List.mem_of_getElem? (i := 964) rfl)) rfl
set_option maxRecDepth 100000 in
theorem wg_973 : Cond.code yX8_about prog_1_method_16_code 5 (some .int) ∈ lw_g := lg_in (List.mem_append_right _ (List.mem_of_getElem? (i := 973) rfl)) rfl
set_option maxRecDepth 100000 in
theorem wg_970 : Cond.methodLink "LoomkeeperLaw" 48 yX8_about ∈ lw_g := lg_in (List.mem_append_right _ (List.mem_of_getElem? (i := 970) rfl)) rfl
set_option maxRecDepth 100000 in
theorem wg_972 : Cond.selects "Loomkeeper" yX8_about yX8_about ∈ lw_g := lg_in (List.mem_append_right _ (List.mem_of_getElem? (i := 972) rfl)) rfl
set_option maxRecDepth 100000 in
theorem wg_971 : Cond.instanceMethod yX8_about ∈ lw_g := lg_in (List.mem_append_right _ (List.mem_of_getElem? (i := 971) rfl)) rfl
set_option maxRecDepth 100000 in
theorem wg_979 : Cond.code yX8_fact prog_1_method_34_code 5 (some .int) ∈ lw_g := lg_in (List.mem_append_right _ (List.mem_of_getElem? (i := 979) rfl)) rfl
set_option maxRecDepth 100000 in
theorem wg_976 : Cond.methodLink "Loomkeeper" 255 yX8_fact ∈ lw_g := lg_in (List.mem_append_right _ (List.mem_of_getElem? (i := 976) rfl)) rfl
set_option maxRecDepth 100000 in
theorem ws_43 : Cond.selects RX8 yX8_fact yX8_fact ∈ lw_g := lg_in (List.mem_append_left _ (List.mem_of_getElem? (i := 43) rfl)) rfl
set_option maxRecDepth 100000 in
theorem wg_978 : Cond.instanceMethod yX8_fact ∈ lw_g := lg_in (List.mem_append_right _ (List.mem_of_getElem? (i := 978) rfl)) rfl
set_option maxRecDepth 100000 in
theorem wg_983 : Cond.code yX5_waitedNumber prog_7_method_6_code 1 (some .int) ∈ lw_g := lg_in (List.mem_append_right _ (List.mem_of_getElem? (i := 983) rfl)) rfl
set_option maxRecDepth 100000 in
theorem wg_980 : Cond.methodLink "Loomkeeper" 305 yX5_waitedNumber ∈ lw_g := lg_in (List.mem_append_right _ (List.mem_of_getElem? (i := 980) rfl)) rfl
set_option maxRecDepth 100000 in
theorem wg_982 : Cond.selects "Loomkeeper$Run" yX5_waitedNumber yX5_waitedNumber ∈ lw_g := lg_in (List.mem_append_right _ (List.mem_of_getElem? (i := 982) rfl)) rfl
set_option maxRecDepth 100000 in
theorem wg_981 : Cond.instanceMethod yX5_waitedNumber ∈ lw_g := lg_in (List.mem_append_right _ (List.mem_of_getElem? (i := 981) rfl)) rfl
set_option maxRecDepth 100000 in
theorem wg_987 : Cond.code yX3_size prog_5_method_2_code 1 (some .int) ∈ lw_g := lg_in (List.mem_append_right _ (List.mem_of_getElem? (i := 987) rfl)) rfl
set_option maxRecDepth 100000 in
theorem wg_984 : Cond.methodLink "Loomkeeper" 312 yX3_size ∈ lw_g := lg_in (List.mem_append_right _ (List.mem_of_getElem? (i := 984) rfl)) rfl
set_option maxRecDepth 100000 in
theorem wg_986 : Cond.selects "Loomkeeper$Pile" yX3_size yX3_size ∈ lw_g := lg_in (List.mem_append_right _ (List.mem_of_getElem? (i := 986) rfl)) rfl
set_option maxRecDepth 100000 in
theorem wg_985 : Cond.instanceMethod yX3_size ∈ lw_g := lg_in (List.mem_append_right _ (List.mem_of_getElem? (i := 985) rfl)) rfl
set_option maxRecDepth 100000 in
theorem wg_991 : Cond.code yX6_size prog_8_method_2_code 1 (some .int) ∈ lw_g := lg_in (List.mem_append_right _ (List.mem_of_getElem? (i := 991) rfl)) rfl
set_option maxRecDepth 100000 in
theorem wg_988 : Cond.methodLink "Loomkeeper" 327 yX6_size ∈ lw_g := lg_in (List.mem_append_right _ (List.mem_of_getElem? (i := 988) rfl)) rfl
set_option maxRecDepth 100000 in
theorem wg_990 : Cond.selects "Loomkeeper$Signals" yX6_size yX6_size ∈ lw_g := lg_in (List.mem_append_right _ (List.mem_of_getElem? (i := 990) rfl)) rfl
set_option maxRecDepth 100000 in
theorem wg_989 : Cond.instanceMethod yX6_size ∈ lw_g := lg_in (List.mem_append_right _ (List.mem_of_getElem? (i := 989) rfl)) rfl
set_option maxRecDepth 100000 in
theorem wg_998 : Cond.code yX8_aboutAnew prog_1_method_17_code 5 (some .int) ∈ lw_g := lg_in (List.mem_append_right _ (List.mem_of_getElem? (i := 998) rfl)) rfl
set_option maxRecDepth 100000 in
theorem wg_995 : Cond.methodLink "LoomkeeperLaw" 51 yX8_aboutAnew ∈ lw_g := lg_in (List.mem_append_right _ (List.mem_of_getElem? (i := 995) rfl)) rfl
set_option maxRecDepth 100000 in
theorem wg_997 : Cond.selects "Loomkeeper" yX8_aboutAnew yX8_aboutAnew ∈ lw_g := lg_in (List.mem_append_right _ (List.mem_of_getElem? (i := 997) rfl)) rfl
set_option maxRecDepth 100000 in
theorem wg_996 : Cond.instanceMethod yX8_aboutAnew ∈ lw_g := lg_in (List.mem_append_right _ (List.mem_of_getElem? (i := 996) rfl)) rfl
set_option maxRecDepth 100000 in
theorem wg_1005 : Cond.code yX8_parent prog_1_method_18_code 3 (some .int) ∈ lw_g := lg_in (List.mem_append_right _ (List.mem_of_getElem? (i := 1005) rfl)) rfl
set_option maxRecDepth 100000 in
theorem wg_1002 : Cond.methodLink "LoomkeeperLaw" 54 yX8_parent ∈ lw_g := lg_in (List.mem_append_right _ (List.mem_of_getElem? (i := 1002) rfl)) rfl
set_option maxRecDepth 100000 in
theorem wg_1004 : Cond.selects "Loomkeeper" yX8_parent yX8_parent ∈ lw_g := lg_in (List.mem_append_right _ (List.mem_of_getElem? (i := 1004) rfl)) rfl
set_option maxRecDepth 100000 in
theorem wg_1003 : Cond.instanceMethod yX8_parent ∈ lw_g := lg_in (List.mem_append_right _ (List.mem_of_getElem? (i := 1003) rfl)) rfl
set_option maxRecDepth 100000 in
theorem wg_1012 : Cond.code yX8_events prog_1_method_19_code 3 (some .int) ∈ lw_g := lg_in (List.mem_append_right _ (List.mem_of_getElem? (i := 1012) rfl)) rfl
set_option maxRecDepth 100000 in
theorem wg_1009 : Cond.methodLink "LoomkeeperLaw" 57 yX8_events ∈ lw_g := lg_in (List.mem_append_right _ (List.mem_of_getElem? (i := 1009) rfl)) rfl
set_option maxRecDepth 100000 in
theorem wg_1011 : Cond.selects "Loomkeeper" yX8_events yX8_events ∈ lw_g := lg_in (List.mem_append_right _ (List.mem_of_getElem? (i := 1011) rfl)) rfl
set_option maxRecDepth 100000 in
theorem wg_1010 : Cond.instanceMethod yX8_events ∈ lw_g := lg_in (List.mem_append_right _ (List.mem_of_getElem? (i := 1010) rfl)) rfl
set_option maxRecDepth 100000 in
theorem wg_1019 : Cond.code yX8_kind prog_1_method_20_code 4 (some .int) ∈ lw_g := lg_in (List.mem_append_right _ (List.mem_of_getElem? (i := 1019) rfl)) rfl
set_option maxRecDepth 100000 in
theorem wg_1016 : Cond.methodLink "LoomkeeperLaw" 60 yX8_kind ∈ lw_g := lg_in (List.mem_append_right _ (List.mem_of_getElem? (i := 1016) rfl)) rfl
set_option maxRecDepth 100000 in
theorem wg_1018 : Cond.selects "Loomkeeper" yX8_kind yX8_kind ∈ lw_g := lg_in (List.mem_append_right _ (List.mem_of_getElem? (i := 1018) rfl)) rfl
set_option maxRecDepth 100000 in
theorem wg_1017 : Cond.instanceMethod yX8_kind ∈ lw_g := lg_in (List.mem_append_right _ (List.mem_of_getElem? (i := 1017) rfl)) rfl
set_option maxRecDepth 100000 in
theorem wg_1027 : Cond.code yX8_number prog_1_method_21_code 4 (some .long) ∈ lw_g := lg_in (List.mem_append_right _ (List.mem_of_getElem? (i := 1027) rfl)) rfl
set_option maxRecDepth 100000 in
theorem wg_1024 : Cond.methodLink "LoomkeeperLaw" 63 yX8_number ∈ lw_g := lg_in (List.mem_append_right _ (List.mem_of_getElem? (i := 1024) rfl)) rfl
set_option maxRecDepth 100000 in
theorem wg_1026 : Cond.selects "Loomkeeper" yX8_number yX8_number ∈ lw_g := lg_in (List.mem_append_right _ (List.mem_of_getElem? (i := 1026) rfl)) rfl
set_option maxRecDepth 100000 in
theorem wg_1025 : Cond.instanceMethod yX8_number ∈ lw_g := lg_in (List.mem_append_right _ (List.mem_of_getElem? (i := 1025) rfl)) rfl
set_option maxRecDepth 100000 in
theorem wg_1034 : Cond.code yX8_task prog_1_method_23_code 4 (some .int) ∈ lw_g := lg_in (List.mem_append_right _ (List.mem_of_getElem? (i := 1034) rfl)) rfl
set_option maxRecDepth 100000 in
theorem wg_1031 : Cond.methodLink "LoomkeeperLaw" 67 yX8_task ∈ lw_g := lg_in (List.mem_append_right _ (List.mem_of_getElem? (i := 1031) rfl)) rfl
set_option maxRecDepth 100000 in
theorem wg_1033 : Cond.selects "Loomkeeper" yX8_task yX8_task ∈ lw_g := lg_in (List.mem_append_right _ (List.mem_of_getElem? (i := 1033) rfl)) rfl
set_option maxRecDepth 100000 in
theorem wg_1032 : Cond.instanceMethod yX8_task ∈ lw_g := lg_in (List.mem_append_right _ (List.mem_of_getElem? (i := 1032) rfl)) rfl
set_option maxRecDepth 100000 in
theorem wg_1039 : Cond.code yX7_fact prog_9_method_2_code 2 (some .int) ∈ lw_g := lg_in (List.mem_append_right _ (List.mem_of_getElem? (i := 1039) rfl)) rfl
set_option maxRecDepth 100000 in
theorem wg_1036 : Cond.methodLink "Loomkeeper" 270 yX7_fact ∈ lw_g := lg_in (List.mem_append_right _ (List.mem_of_getElem? (i := 1036) rfl)) rfl
set_option maxRecDepth 100000 in
theorem wg_1038 : Cond.selects "Loomkeeper$Task" yX7_fact yX7_fact ∈ lw_g := lg_in (List.mem_append_right _ (List.mem_of_getElem? (i := 1038) rfl)) rfl
set_option maxRecDepth 100000 in
theorem wg_1037 : Cond.instanceMethod yX7_fact ∈ lw_g := lg_in (List.mem_append_right _ (List.mem_of_getElem? (i := 1037) rfl)) rfl
set_option maxRecDepth 100000 in
theorem wg_1044 : Cond.code yX9_init prog_11_method_1_code 1 (none : Option Jvm.ClassFile.FieldType) ∈ lw_g := lg_in (List.mem_append_right _ (List.mem_of_getElem? (i := 1044) rfl)) rfl
set_option maxRecDepth 100000 in
theorem wg_1042 : Cond.methodLink "LoomkeeperLaw" 73 yX9_init ∈ lw_g := lg_in (List.mem_append_right _ (List.mem_of_getElem? (i := 1042) rfl)) rfl
set_option maxRecDepth 100000 in
theorem wg_1043 : Cond.instanceMethod yX9_init ∈ lw_g := lg_in (List.mem_append_right _ (List.mem_of_getElem? (i := 1043) rfl)) rfl
set_option maxRecDepth 100000 in
theorem wg_1200 : Cond.code yX9_thrown prog_11_method_2_code 1 (some .int) ∈ lw_g := lg_in (List.mem_append_right _ (List.mem_of_getElem? (i := 1200) rfl)) rfl
set_option maxRecDepth 100000 in
theorem wg_1197 : Cond.methodLink "LoomkeeperLaw" 121 yX9_thrown ∈ lw_g := lg_in (List.mem_append_right _ (List.mem_of_getElem? (i := 1197) rfl)) rfl
set_option maxRecDepth 100000 in
theorem wg_1199 : Cond.selects "LoomkeeperModel" yX9_thrown yX9_thrown ∈ lw_g := lg_in (List.mem_append_right _ (List.mem_of_getElem? (i := 1199) rfl)) rfl
set_option maxRecDepth 100000 in
theorem wg_1198 : Cond.instanceMethod yX9_thrown ∈ lw_g := lg_in (List.mem_append_right _ (List.mem_of_getElem? (i := 1198) rfl)) rfl
set_option maxRecDepth 100000 in
theorem wg_1204 : Cond.code yX9_set prog_11_method_33_code 7 (some .int) ∈ lw_g := lg_in (List.mem_append_right _ (List.mem_of_getElem? (i := 1204) rfl)) rfl
set_option maxRecDepth 100000 in
theorem wg_1201 : Cond.methodLink "LoomkeeperLaw" 79 yX9_set ∈ lw_g := lg_in (List.mem_append_right _ (List.mem_of_getElem? (i := 1201) rfl)) rfl
set_option maxRecDepth 100000 in
theorem wg_1203 : Cond.selects "LoomkeeperModel" yX9_set yX9_set ∈ lw_g := lg_in (List.mem_append_right _ (List.mem_of_getElem? (i := 1203) rfl)) rfl
set_option maxRecDepth 100000 in
theorem wg_1202 : Cond.instanceMethod yX9_set ∈ lw_g := lg_in (List.mem_append_right _ (List.mem_of_getElem? (i := 1202) rfl)) rfl
set_option maxRecDepth 100000 in
theorem wg_1207 : Cond.code yX9_isStep prog_11_method_29_code 2 (some .boolean) ∈ lw_g := lg_in (List.mem_append_right _ (List.mem_of_getElem? (i := 1207) rfl)) rfl
set_option maxRecDepth 100000 in
theorem wg_1205 : Cond.methodLink "LoomkeeperModel" 238 yX9_isStep ∈ lw_g := lg_in (List.mem_append_right _ (List.mem_of_getElem? (i := 1205) rfl)) rfl
set_option maxRecDepth 100000 in
theorem wg_1206 : Cond.static yX9_isStep ∈ lw_g := lg_in (List.mem_append_right _ (List.mem_of_getElem? (i := 1206) rfl)) rfl
set_option maxRecDepth 100000 in
theorem wg_1210 : Cond.code yX9_in prog_11_method_6_code 3 (some .boolean) ∈ lw_g := lg_in (List.mem_append_right _ (List.mem_of_getElem? (i := 1210) rfl)) rfl
set_option maxRecDepth 100000 in
theorem wg_1208 : Cond.methodLink "LoomkeeperModel" 96 yX9_in ∈ lw_g := lg_in (List.mem_append_right _ (List.mem_of_getElem? (i := 1208) rfl)) rfl
set_option maxRecDepth 100000 in
theorem wg_1209 : Cond.static yX9_in ∈ lw_g := lg_in (List.mem_append_right _ (List.mem_of_getElem? (i := 1209) rfl)) rfl
set_option maxRecDepth 100000 in
theorem wg_1213 : Cond.code yX9_isOperation prog_11_method_30_code 3 (some .boolean) ∈ lw_g := lg_in (List.mem_append_right _ (List.mem_of_getElem? (i := 1213) rfl)) rfl
set_option maxRecDepth 100000 in
theorem wg_1211 : Cond.methodLink "LoomkeeperModel" 242 yX9_isOperation ∈ lw_g := lg_in (List.mem_append_right _ (List.mem_of_getElem? (i := 1211) rfl)) rfl
set_option maxRecDepth 100000 in
theorem wg_1212 : Cond.static yX9_isOperation ∈ lw_g := lg_in (List.mem_append_right _ (List.mem_of_getElem? (i := 1212) rfl)) rfl
set_option maxRecDepth 100000 in
theorem wg_1217 : Cond.code yX9_needs_ prog_11_method_4_code 3 (some .boolean) ∈ lw_g := lg_in (List.mem_append_right _ (List.mem_of_getElem? (i := 1217) rfl)) rfl
set_option maxRecDepth 100000 in
theorem wg_1214 : Cond.methodLink "LoomkeeperModel" 245 yX9_needs_ ∈ lw_g := lg_in (List.mem_append_right _ (List.mem_of_getElem? (i := 1214) rfl)) rfl
set_option maxRecDepth 100000 in
theorem ws_44 : Cond.selects RX9 yX9_needs_ yX9_needs_ ∈ lw_g := lg_in (List.mem_append_left _ (List.mem_of_getElem? (i := 44) rfl)) rfl
set_option maxRecDepth 100000 in
theorem wg_1216 : Cond.instanceMethod yX9_needs_ ∈ lw_g := lg_in (List.mem_append_right _ (List.mem_of_getElem? (i := 1216) rfl)) rfl
set_option maxRecDepth 100000 in
theorem wg_1221 : Cond.code yX9_lays prog_11_method_31_code 6 (none : Option Jvm.ClassFile.FieldType) ∈ lw_g := lg_in (List.mem_append_right _ (List.mem_of_getElem? (i := 1221) rfl)) rfl
set_option maxRecDepth 100000 in
theorem wg_1218 : Cond.methodLink "LoomkeeperModel" 249 yX9_lays ∈ lw_g := lg_in (List.mem_append_right _ (List.mem_of_getElem? (i := 1218) rfl)) rfl
set_option maxRecDepth 100000 in
theorem ws_45 : Cond.selects RX9 yX9_lays yX9_lays ∈ lw_g := lg_in (List.mem_append_left _ (List.mem_of_getElem? (i := 45) rfl)) rfl
set_option maxRecDepth 100000 in
theorem wg_1220 : Cond.instanceMethod yX9_lays ∈ lw_g := lg_in (List.mem_append_right _ (List.mem_of_getElem? (i := 1220) rfl)) rfl
set_option maxRecDepth 100000 in
theorem wg_1225 : Cond.code yX9_isFit prog_11_method_28_code 2 (some .boolean) ∈ lw_g := lg_in (List.mem_append_right _ (List.mem_of_getElem? (i := 1225) rfl)) rfl
set_option maxRecDepth 100000 in
theorem wg_1222 : Cond.methodLink "LoomkeeperModel" 235 yX9_isFit ∈ lw_g := lg_in (List.mem_append_right _ (List.mem_of_getElem? (i := 1222) rfl)) rfl
set_option maxRecDepth 100000 in
theorem ws_46 : Cond.selects RX9 yX9_isFit yX9_isFit ∈ lw_g := lg_in (List.mem_append_left _ (List.mem_of_getElem? (i := 46) rfl)) rfl
set_option maxRecDepth 100000 in
theorem wg_1224 : Cond.instanceMethod yX9_isFit ∈ lw_g := lg_in (List.mem_append_right _ (List.mem_of_getElem? (i := 1224) rfl)) rfl
set_option maxRecDepth 100000 in
theorem wg_1229 : Cond.code yX9_replays prog_11_method_19_code 5 (some .int) ∈ lw_g := lg_in (List.mem_append_right _ (List.mem_of_getElem? (i := 1229) rfl)) rfl
set_option maxRecDepth 100000 in
theorem wg_1226 : Cond.methodLink "LoomkeeperModel" 216 yX9_replays ∈ lw_g := lg_in (List.mem_append_right _ (List.mem_of_getElem? (i := 1226) rfl)) rfl
set_option maxRecDepth 100000 in
theorem ws_47 : Cond.selects RX9 yX9_replays yX9_replays ∈ lw_g := lg_in (List.mem_append_left _ (List.mem_of_getElem? (i := 47) rfl)) rfl
set_option maxRecDepth 100000 in
theorem wg_1228 : Cond.instanceMethod yX9_replays ∈ lw_g := lg_in (List.mem_append_right _ (List.mem_of_getElem? (i := 1228) rfl)) rfl
set_option maxRecDepth 100000 in
theorem wg_1233 : Cond.code yX9_begins prog_11_method_10_code 1 (none : Option Jvm.ClassFile.FieldType) ∈ lw_g := lg_in (List.mem_append_right _ (List.mem_of_getElem? (i := 1233) rfl)) rfl
set_option maxRecDepth 100000 in
theorem wg_1230 : Cond.methodLink "LoomkeeperModel" 175 yX9_begins ∈ lw_g := lg_in (List.mem_append_right _ (List.mem_of_getElem? (i := 1230) rfl)) rfl
set_option maxRecDepth 100000 in
theorem ws_48 : Cond.selects RX9 yX9_begins yX9_begins ∈ lw_g := lg_in (List.mem_append_left _ (List.mem_of_getElem? (i := 48) rfl)) rfl
set_option maxRecDepth 100000 in
theorem wg_1232 : Cond.instanceMethod yX9_begins ∈ lw_g := lg_in (List.mem_append_right _ (List.mem_of_getElem? (i := 1232) rfl)) rfl
set_option maxRecDepth 100000 in
theorem wg_1237 : Cond.code yX9_comes prog_11_method_15_code 9 (none : Option Jvm.ClassFile.FieldType) ∈ lw_g := lg_in (List.mem_append_right _ (List.mem_of_getElem? (i := 1237) rfl)) rfl
set_option maxRecDepth 100000 in
theorem wg_1234 : Cond.methodLink "LoomkeeperModel" 178 yX9_comes ∈ lw_g := lg_in (List.mem_append_right _ (List.mem_of_getElem? (i := 1234) rfl)) rfl
set_option maxRecDepth 100000 in
theorem ws_49 : Cond.selects RX9 yX9_comes yX9_comes ∈ lw_g := lg_in (List.mem_append_left _ (List.mem_of_getElem? (i := 49) rfl)) rfl
set_option maxRecDepth 100000 in
theorem wg_1236 : Cond.instanceMethod yX9_comes ∈ lw_g := lg_in (List.mem_append_right _ (List.mem_of_getElem? (i := 1236) rfl)) rfl
set_option maxRecDepth 100000 in
theorem wg_1242 : Cond.code yX9_keptOf prog_11_method_13_code 3 (some .int) ∈ lw_g := lg_in (List.mem_append_right _ (List.mem_of_getElem? (i := 1242) rfl)) rfl
set_option maxRecDepth 100000 in
theorem wg_1239 : Cond.methodLink "LoomkeeperModel" 149 yX9_keptOf ∈ lw_g := lg_in (List.mem_append_right _ (List.mem_of_getElem? (i := 1239) rfl)) rfl
set_option maxRecDepth 100000 in
theorem ws_50 : Cond.selects RX9 yX9_keptOf yX9_keptOf ∈ lw_g := lg_in (List.mem_append_left _ (List.mem_of_getElem? (i := 50) rfl)) rfl
set_option maxRecDepth 100000 in
theorem wg_1241 : Cond.instanceMethod yX9_keptOf ∈ lw_g := lg_in (List.mem_append_right _ (List.mem_of_getElem? (i := 1241) rfl)) rfl
set_option maxRecDepth 100000 in
theorem wg_1246 : Cond.code yX9_uses prog_11_method_14_code 4 (some .int) ∈ lw_g := lg_in (List.mem_append_right _ (List.mem_of_getElem? (i := 1246) rfl)) rfl
set_option maxRecDepth 100000 in
theorem wg_1243 : Cond.methodLink "LoomkeeperModel" 153 yX9_uses ∈ lw_g := lg_in (List.mem_append_right _ (List.mem_of_getElem? (i := 1243) rfl)) rfl
set_option maxRecDepth 100000 in
theorem ws_51 : Cond.selects RX9 yX9_uses yX9_uses ∈ lw_g := lg_in (List.mem_append_left _ (List.mem_of_getElem? (i := 51) rfl)) rfl
set_option maxRecDepth 100000 in
theorem wg_1245 : Cond.instanceMethod yX9_uses ∈ lw_g := lg_in (List.mem_append_right _ (List.mem_of_getElem? (i := 1245) rfl)) rfl
set_option maxRecDepth 100000 in
theorem wg_1251 : Cond.code yX9_undoes prog_11_method_20_code 6 (some .boolean) ∈ lw_g := lg_in (List.mem_append_right _ (List.mem_of_getElem? (i := 1251) rfl)) rfl
set_option maxRecDepth 100000 in
theorem wg_1248 : Cond.methodLink "LoomkeeperModel" 182 yX9_undoes ∈ lw_g := lg_in (List.mem_append_right _ (List.mem_of_getElem? (i := 1248) rfl)) rfl
set_option maxRecDepth 100000 in
theorem ws_52 : Cond.selects RX9 yX9_undoes yX9_undoes ∈ lw_g := lg_in (List.mem_append_left _ (List.mem_of_getElem? (i := 52) rfl)) rfl
set_option maxRecDepth 100000 in
theorem wg_1250 : Cond.instanceMethod yX9_undoes ∈ lw_g := lg_in (List.mem_append_right _ (List.mem_of_getElem? (i := 1250) rfl)) rfl
set_option maxRecDepth 100000 in
theorem wg_1255 : Cond.code yX9_meets prog_11_method_11_code 8 (some .boolean) ∈ lw_g := lg_in (List.mem_append_right _ (List.mem_of_getElem? (i := 1255) rfl)) rfl
set_option maxRecDepth 100000 in
theorem wg_1252 : Cond.methodLink "LoomkeeperModel" 164 yX9_meets ∈ lw_g := lg_in (List.mem_append_right _ (List.mem_of_getElem? (i := 1252) rfl)) rfl
set_option maxRecDepth 100000 in
theorem ws_53 : Cond.selects RX9 yX9_meets yX9_meets ∈ lw_g := lg_in (List.mem_append_left _ (List.mem_of_getElem? (i := 53) rfl)) rfl
set_option maxRecDepth 100000 in
theorem wg_1254 : Cond.instanceMethod yX9_meets ∈ lw_g := lg_in (List.mem_append_right _ (List.mem_of_getElem? (i := 1254) rfl)) rfl
set_option maxRecDepth 100000 in
theorem wg_1259 : Cond.code yX9_adds prog_11_method_8_code 5 (none : Option Jvm.ClassFile.FieldType) ∈ lw_g := lg_in (List.mem_append_right _ (List.mem_of_getElem? (i := 1259) rfl)) rfl
set_option maxRecDepth 100000 in
theorem wg_1256 : Cond.methodLink "LoomkeeperModel" 143 yX9_adds ∈ lw_g := lg_in (List.mem_append_right _ (List.mem_of_getElem? (i := 1256) rfl)) rfl
set_option maxRecDepth 100000 in
theorem ws_54 : Cond.selects RX9 yX9_adds yX9_adds ∈ lw_g := lg_in (List.mem_append_left _ (List.mem_of_getElem? (i := 54) rfl)) rfl
set_option maxRecDepth 100000 in
theorem wg_1258 : Cond.instanceMethod yX9_adds ∈ lw_g := lg_in (List.mem_append_right _ (List.mem_of_getElem? (i := 1258) rfl)) rfl
set_option maxRecDepth 100000 in
theorem wg_1263 : Cond.code yX9_makesTask prog_11_method_9_code 3 (some .int) ∈ lw_g := lg_in (List.mem_append_right _ (List.mem_of_getElem? (i := 1263) rfl)) rfl
set_option maxRecDepth 100000 in
theorem wg_1260 : Cond.methodLink "LoomkeeperModel" 189 yX9_makesTask ∈ lw_g := lg_in (List.mem_append_right _ (List.mem_of_getElem? (i := 1260) rfl)) rfl
set_option maxRecDepth 100000 in
theorem ws_55 : Cond.selects RX9 yX9_makesTask yX9_makesTask ∈ lw_g := lg_in (List.mem_append_left _ (List.mem_of_getElem? (i := 55) rfl)) rfl
set_option maxRecDepth 100000 in
theorem wg_1262 : Cond.instanceMethod yX9_makesTask ∈ lw_g := lg_in (List.mem_append_right _ (List.mem_of_getElem? (i := 1262) rfl)) rfl
set_option maxRecDepth 100000 in
theorem wg_1267 : Cond.code yX9_steps prog_11_method_21_code 12 (some .boolean) ∈ lw_g := lg_in (List.mem_append_right _ (List.mem_of_getElem? (i := 1267) rfl)) rfl
set_option maxRecDepth 100000 in
theorem wg_1264 : Cond.methodLink "LoomkeeperModel" 186 yX9_steps ∈ lw_g := lg_in (List.mem_append_right _ (List.mem_of_getElem? (i := 1264) rfl)) rfl
set_option maxRecDepth 100000 in
theorem ws_56 : Cond.selects RX9 yX9_steps yX9_steps ∈ lw_g := lg_in (List.mem_append_left _ (List.mem_of_getElem? (i := 56) rfl)) rfl
set_option maxRecDepth 100000 in
theorem wg_1266 : Cond.instanceMethod yX9_steps ∈ lw_g := lg_in (List.mem_append_right _ (List.mem_of_getElem? (i := 1266) rfl)) rfl
set_option maxRecDepth 100000 in
theorem wg_1270 : Cond.code yX9_isBounded prog_11_method_18_code 1 (some .boolean) ∈ lw_g := lg_in (List.mem_append_right _ (List.mem_of_getElem? (i := 1270) rfl)) rfl
set_option maxRecDepth 100000 in
theorem wg_1268 : Cond.methodLink "LoomkeeperModel" 193 yX9_isBounded ∈ lw_g := lg_in (List.mem_append_right _ (List.mem_of_getElem? (i := 1268) rfl)) rfl
set_option maxRecDepth 100000 in
theorem wg_1269 : Cond.static yX9_isBounded ∈ lw_g := lg_in (List.mem_append_right _ (List.mem_of_getElem? (i := 1269) rfl)) rfl
set_option maxRecDepth 100000 in
theorem wg_1274 : Cond.code yX9_latestNumber prog_11_method_12_code 2 (some .long) ∈ lw_g := lg_in (List.mem_append_right _ (List.mem_of_getElem? (i := 1274) rfl)) rfl
set_option maxRecDepth 100000 in
theorem wg_1271 : Cond.methodLink "LoomkeeperModel" 200 yX9_latestNumber ∈ lw_g := lg_in (List.mem_append_right _ (List.mem_of_getElem? (i := 1271) rfl)) rfl
set_option maxRecDepth 100000 in
theorem ws_57 : Cond.selects RX9 yX9_latestNumber yX9_latestNumber ∈ lw_g := lg_in (List.mem_append_left _ (List.mem_of_getElem? (i := 57) rfl)) rfl
set_option maxRecDepth 100000 in
theorem wg_1273 : Cond.instanceMethod yX9_latestNumber ∈ lw_g := lg_in (List.mem_append_right _ (List.mem_of_getElem? (i := 1273) rfl)) rfl
set_option maxRecDepth 100000 in
theorem wg_1278 : Cond.code yX9_starts prog_11_method_17_code 8 (some .boolean) ∈ lw_g := lg_in (List.mem_append_right _ (List.mem_of_getElem? (i := 1278) rfl)) rfl
set_option maxRecDepth 100000 in
theorem wg_1275 : Cond.methodLink "LoomkeeperModel" 207 yX9_starts ∈ lw_g := lg_in (List.mem_append_right _ (List.mem_of_getElem? (i := 1275) rfl)) rfl
set_option maxRecDepth 100000 in
theorem ws_58 : Cond.selects RX9 yX9_starts yX9_starts ∈ lw_g := lg_in (List.mem_append_left _ (List.mem_of_getElem? (i := 58) rfl)) rfl
set_option maxRecDepth 100000 in
theorem wg_1277 : Cond.instanceMethod yX9_starts ∈ lw_g := lg_in (List.mem_append_right _ (List.mem_of_getElem? (i := 1277) rfl)) rfl
set_option maxRecDepth 100000 in
theorem wg_1282 : Cond.code yX9_begets prog_11_method_16_code 6 (some .int) ∈ lw_g := lg_in (List.mem_append_right _ (List.mem_of_getElem? (i := 1282) rfl)) rfl
set_option maxRecDepth 100000 in
theorem wg_1279 : Cond.methodLink "LoomkeeperModel" 168 yX9_begets ∈ lw_g := lg_in (List.mem_append_right _ (List.mem_of_getElem? (i := 1279) rfl)) rfl
set_option maxRecDepth 100000 in
theorem ws_59 : Cond.selects RX9 yX9_begets yX9_begets ∈ lw_g := lg_in (List.mem_append_left _ (List.mem_of_getElem? (i := 59) rfl)) rfl
set_option maxRecDepth 100000 in
theorem wg_1281 : Cond.instanceMethod yX9_begets ∈ lw_g := lg_in (List.mem_append_right _ (List.mem_of_getElem? (i := 1281) rfl)) rfl
set_option maxRecDepth 100000 in
theorem wg_1286 : Cond.code yX9_draws prog_11_method_22_code 6 (some .boolean) ∈ lw_g := lg_in (List.mem_append_right _ (List.mem_of_getElem? (i := 1286) rfl)) rfl
set_option maxRecDepth 100000 in
theorem wg_1283 : Cond.methodLink "LoomkeeperModel" 211 yX9_draws ∈ lw_g := lg_in (List.mem_append_right _ (List.mem_of_getElem? (i := 1283) rfl)) rfl
set_option maxRecDepth 100000 in
theorem ws_60 : Cond.selects RX9 yX9_draws yX9_draws ∈ lw_g := lg_in (List.mem_append_left _ (List.mem_of_getElem? (i := 60) rfl)) rfl
set_option maxRecDepth 100000 in
theorem wg_1285 : Cond.instanceMethod yX9_draws ∈ lw_g := lg_in (List.mem_append_right _ (List.mem_of_getElem? (i := 1285) rfl)) rfl
set_option maxRecDepth 100000 in
theorem wg_1291 : Cond.code yX9_runs prog_11_method_26_code 5 (none : Option Jvm.ClassFile.FieldType) ∈ lw_g := lg_in (List.mem_append_right _ (List.mem_of_getElem? (i := 1291) rfl)) rfl
set_option maxRecDepth 100000 in
theorem wg_1288 : Cond.methodLink "LoomkeeperModel" 253 yX9_runs ∈ lw_g := lg_in (List.mem_append_right _ (List.mem_of_getElem? (i := 1288) rfl)) rfl
set_option maxRecDepth 100000 in
theorem ws_61 : Cond.selects RX9 yX9_runs yX9_runs ∈ lw_g := lg_in (List.mem_append_left _ (List.mem_of_getElem? (i := 61) rfl)) rfl
set_option maxRecDepth 100000 in
theorem wg_1290 : Cond.instanceMethod yX9_runs ∈ lw_g := lg_in (List.mem_append_right _ (List.mem_of_getElem? (i := 1290) rfl)) rfl
set_option maxRecDepth 100000 in
theorem wg_1295 : Cond.code yX9_goesOn prog_11_method_23_code 5 (none : Option Jvm.ClassFile.FieldType) ∈ lw_g := lg_in (List.mem_append_right _ (List.mem_of_getElem? (i := 1295) rfl)) rfl
set_option maxRecDepth 100000 in
theorem wg_1292 : Cond.methodLink "LoomkeeperModel" 229 yX9_goesOn ∈ lw_g := lg_in (List.mem_append_right _ (List.mem_of_getElem? (i := 1292) rfl)) rfl
set_option maxRecDepth 100000 in
theorem ws_62 : Cond.selects RX9 yX9_goesOn yX9_goesOn ∈ lw_g := lg_in (List.mem_append_left _ (List.mem_of_getElem? (i := 62) rfl)) rfl
set_option maxRecDepth 100000 in
theorem wg_1294 : Cond.instanceMethod yX9_goesOn ∈ lw_g := lg_in (List.mem_append_right _ (List.mem_of_getElem? (i := 1294) rfl)) rfl
set_option maxRecDepth 100000 in
theorem wg_1299 : Cond.code yX9_rests prog_11_method_24_code 6 (none : Option Jvm.ClassFile.FieldType) ∈ lw_g := lg_in (List.mem_append_right _ (List.mem_of_getElem? (i := 1299) rfl)) rfl
set_option maxRecDepth 100000 in
theorem wg_1296 : Cond.methodLink "LoomkeeperModel" 220 yX9_rests ∈ lw_g := lg_in (List.mem_append_right _ (List.mem_of_getElem? (i := 1296) rfl)) rfl
set_option maxRecDepth 100000 in
theorem ws_63 : Cond.selects RX9 yX9_rests yX9_rests ∈ lw_g := lg_in (List.mem_append_left _ (List.mem_of_getElem? (i := 63) rfl)) rfl
set_option maxRecDepth 100000 in
theorem wg_1298 : Cond.instanceMethod yX9_rests ∈ lw_g := lg_in (List.mem_append_right _ (List.mem_of_getElem? (i := 1298) rfl)) rfl
set_option maxRecDepth 100000 in
theorem wg_1303 : Cond.code yX9_closes prog_11_method_25_code 2 (none : Option Jvm.ClassFile.FieldType) ∈ lw_g := lg_in (List.mem_append_right _ (List.mem_of_getElem? (i := 1303) rfl)) rfl
set_option maxRecDepth 100000 in
theorem wg_1300 : Cond.methodLink "LoomkeeperModel" 223 yX9_closes ∈ lw_g := lg_in (List.mem_append_right _ (List.mem_of_getElem? (i := 1300) rfl)) rfl
set_option maxRecDepth 100000 in
theorem ws_64 : Cond.selects RX9 yX9_closes yX9_closes ∈ lw_g := lg_in (List.mem_append_left _ (List.mem_of_getElem? (i := 64) rfl)) rfl
set_option maxRecDepth 100000 in
theorem wg_1302 : Cond.instanceMethod yX9_closes ∈ lw_g := lg_in (List.mem_append_right _ (List.mem_of_getElem? (i := 1302) rfl)) rfl
set_option maxRecDepth 100000 in
theorem wg_1307 : Cond.code yX9_asks prog_11_method_27_code 3 (some .int) ∈ lw_g := lg_in (List.mem_append_right _ (List.mem_of_getElem? (i := 1307) rfl)) rfl
set_option maxRecDepth 100000 in
theorem wg_1304 : Cond.methodLink "LoomkeeperModel" 232 yX9_asks ∈ lw_g := lg_in (List.mem_append_right _ (List.mem_of_getElem? (i := 1304) rfl)) rfl
set_option maxRecDepth 100000 in
theorem ws_65 : Cond.selects RX9 yX9_asks yX9_asks ∈ lw_g := lg_in (List.mem_append_left _ (List.mem_of_getElem? (i := 65) rfl)) rfl
set_option maxRecDepth 100000 in
theorem wg_1306 : Cond.instanceMethod yX9_asks ∈ lw_g := lg_in (List.mem_append_right _ (List.mem_of_getElem? (i := 1306) rfl)) rfl
set_option maxRecDepth 100000 in
theorem wg_1311 : Cond.code yX9_unfit prog_11_method_32_code 4 (some .int) ∈ lw_g := lg_in (List.mem_append_right _ (List.mem_of_getElem? (i := 1311) rfl)) rfl
set_option maxRecDepth 100000 in
theorem wg_1308 : Cond.methodLink "LoomkeeperModel" 256 yX9_unfit ∈ lw_g := lg_in (List.mem_append_right _ (List.mem_of_getElem? (i := 1308) rfl)) rfl
set_option maxRecDepth 100000 in
theorem ws_66 : Cond.selects RX9 yX9_unfit yX9_unfit ∈ lw_g := lg_in (List.mem_append_left _ (List.mem_of_getElem? (i := 66) rfl)) rfl
set_option maxRecDepth 100000 in
theorem wg_1310 : Cond.instanceMethod yX9_unfit ∈ lw_g := lg_in (List.mem_append_right _ (List.mem_of_getElem? (i := 1310) rfl)) rfl
set_option maxRecDepth 100000 in
theorem wg_1315 : Cond.code yX9_check prog_11_method_34_code 11 (some .int) ∈ lw_g := lg_in (List.mem_append_right _ (List.mem_of_getElem? (i := 1315) rfl)) rfl
set_option maxRecDepth 100000 in
theorem wg_1312 : Cond.methodLink "LoomkeeperLaw" 82 yX9_check ∈ lw_g := lg_in (List.mem_append_right _ (List.mem_of_getElem? (i := 1312) rfl)) rfl
set_option maxRecDepth 100000 in
theorem wg_1314 : Cond.selects "LoomkeeperModel" yX9_check yX9_check ∈ lw_g := lg_in (List.mem_append_right _ (List.mem_of_getElem? (i := 1314) rfl)) rfl
set_option maxRecDepth 100000 in
theorem wg_1313 : Cond.instanceMethod yX9_check ∈ lw_g := lg_in (List.mem_append_right _ (List.mem_of_getElem? (i := 1313) rfl)) rfl
set_option maxRecDepth 100000 in
theorem wg_1319 : Cond.code yX9_start prog_11_method_35_code 4 (some .int) ∈ lw_g := lg_in (List.mem_append_right _ (List.mem_of_getElem? (i := 1319) rfl)) rfl
set_option maxRecDepth 100000 in
theorem wg_1316 : Cond.methodLink "LoomkeeperLaw" 86 yX9_start ∈ lw_g := lg_in (List.mem_append_right _ (List.mem_of_getElem? (i := 1316) rfl)) rfl
set_option maxRecDepth 100000 in
theorem wg_1318 : Cond.selects "LoomkeeperModel" yX9_start yX9_start ∈ lw_g := lg_in (List.mem_append_right _ (List.mem_of_getElem? (i := 1318) rfl)) rfl
set_option maxRecDepth 100000 in
theorem wg_1317 : Cond.instanceMethod yX9_start ∈ lw_g := lg_in (List.mem_append_right _ (List.mem_of_getElem? (i := 1317) rfl)) rfl
set_option maxRecDepth 100000 in
theorem wg_1323 : Cond.code yX9_needs__ prog_11_method_5_code 4 (some .boolean) ∈ lw_g := lg_in (List.mem_append_right _ (List.mem_of_getElem? (i := 1323) rfl)) rfl
set_option maxRecDepth 100000 in
theorem wg_1320 : Cond.methodLink "LoomkeeperModel" 259 yX9_needs__ ∈ lw_g := lg_in (List.mem_append_right _ (List.mem_of_getElem? (i := 1320) rfl)) rfl
set_option maxRecDepth 100000 in
theorem ws_67 : Cond.selects RX9 yX9_needs__ yX9_needs__ ∈ lw_g := lg_in (List.mem_append_left _ (List.mem_of_getElem? (i := 67) rfl)) rfl
set_option maxRecDepth 100000 in
theorem wg_1322 : Cond.instanceMethod yX9_needs__ ∈ lw_g := lg_in (List.mem_append_right _ (List.mem_of_getElem? (i := 1322) rfl)) rfl
set_option maxRecDepth 100000 in
theorem wg_1327 : Cond.code yX9_signal prog_11_method_37_code 4 (some .boolean) ∈ lw_g := lg_in (List.mem_append_right _ (List.mem_of_getElem? (i := 1327) rfl)) rfl
set_option maxRecDepth 100000 in
theorem wg_1324 : Cond.methodLink "LoomkeeperLaw" 90 yX9_signal ∈ lw_g := lg_in (List.mem_append_right _ (List.mem_of_getElem? (i := 1324) rfl)) rfl
set_option maxRecDepth 100000 in
theorem wg_1326 : Cond.selects "LoomkeeperModel" yX9_signal yX9_signal ∈ lw_g := lg_in (List.mem_append_right _ (List.mem_of_getElem? (i := 1326) rfl)) rfl
set_option maxRecDepth 100000 in
theorem wg_1325 : Cond.instanceMethod yX9_signal ∈ lw_g := lg_in (List.mem_append_right _ (List.mem_of_getElem? (i := 1325) rfl)) rfl
set_option maxRecDepth 100000 in
theorem wg_1331 : Cond.code yX9_isWorkflow prog_11_method_7_code 2 (some .boolean) ∈ lw_g := lg_in (List.mem_append_right _ (List.mem_of_getElem? (i := 1331) rfl)) rfl
set_option maxRecDepth 100000 in
theorem wg_1328 : Cond.methodLink "LoomkeeperModel" 262 yX9_isWorkflow ∈ lw_g := lg_in (List.mem_append_right _ (List.mem_of_getElem? (i := 1328) rfl)) rfl
set_option maxRecDepth 100000 in
theorem ws_68 : Cond.selects RX9 yX9_isWorkflow yX9_isWorkflow ∈ lw_g := lg_in (List.mem_append_left _ (List.mem_of_getElem? (i := 68) rfl)) rfl
set_option maxRecDepth 100000 in
theorem wg_1330 : Cond.instanceMethod yX9_isWorkflow ∈ lw_g := lg_in (List.mem_append_right _ (List.mem_of_getElem? (i := 1330) rfl)) rfl
set_option maxRecDepth 100000 in
theorem wg_1335 : Cond.code yX9_tells prog_11_method_36_code 5 (some .boolean) ∈ lw_g := lg_in (List.mem_append_right _ (List.mem_of_getElem? (i := 1335) rfl)) rfl
set_option maxRecDepth 100000 in
theorem wg_1332 : Cond.methodLink "LoomkeeperModel" 265 yX9_tells ∈ lw_g := lg_in (List.mem_append_right _ (List.mem_of_getElem? (i := 1332) rfl)) rfl
set_option maxRecDepth 100000 in
theorem ws_69 : Cond.selects RX9 yX9_tells yX9_tells ∈ lw_g := lg_in (List.mem_append_left _ (List.mem_of_getElem? (i := 69) rfl)) rfl
set_option maxRecDepth 100000 in
theorem wg_1334 : Cond.instanceMethod yX9_tells ∈ lw_g := lg_in (List.mem_append_right _ (List.mem_of_getElem? (i := 1334) rfl)) rfl
set_option maxRecDepth 100000 in
theorem wg_1339 : Cond.code yX9_cancel prog_11_method_38_code 2 (some .boolean) ∈ lw_g := lg_in (List.mem_append_right _ (List.mem_of_getElem? (i := 1339) rfl)) rfl
set_option maxRecDepth 100000 in
theorem wg_1336 : Cond.methodLink "LoomkeeperLaw" 94 yX9_cancel ∈ lw_g := lg_in (List.mem_append_right _ (List.mem_of_getElem? (i := 1336) rfl)) rfl
set_option maxRecDepth 100000 in
theorem wg_1338 : Cond.selects "LoomkeeperModel" yX9_cancel yX9_cancel ∈ lw_g := lg_in (List.mem_append_right _ (List.mem_of_getElem? (i := 1338) rfl)) rfl
set_option maxRecDepth 100000 in
theorem wg_1337 : Cond.instanceMethod yX9_cancel ∈ lw_g := lg_in (List.mem_append_right _ (List.mem_of_getElem? (i := 1337) rfl)) rfl
set_option maxRecDepth 100000 in
theorem wg_1343 : Cond.code yX9_needs prog_11_method_3_code 2 (some .boolean) ∈ lw_g := lg_in (List.mem_append_right _ (List.mem_of_getElem? (i := 1343) rfl)) rfl
set_option maxRecDepth 100000 in
theorem wg_1340 : Cond.methodLink "LoomkeeperModel" 269 yX9_needs ∈ lw_g := lg_in (List.mem_append_right _ (List.mem_of_getElem? (i := 1340) rfl)) rfl
set_option maxRecDepth 100000 in
theorem ws_70 : Cond.selects RX9 yX9_needs yX9_needs ∈ lw_g := lg_in (List.mem_append_left _ (List.mem_of_getElem? (i := 70) rfl)) rfl
set_option maxRecDepth 100000 in
theorem wg_1342 : Cond.instanceMethod yX9_needs ∈ lw_g := lg_in (List.mem_append_right _ (List.mem_of_getElem? (i := 1342) rfl)) rfl
set_option maxRecDepth 100000 in
theorem wg_1347 : Cond.code yX9_reset prog_11_method_39_code 7 (some .int) ∈ lw_g := lg_in (List.mem_append_right _ (List.mem_of_getElem? (i := 1347) rfl)) rfl
set_option maxRecDepth 100000 in
theorem wg_1344 : Cond.methodLink "LoomkeeperLaw" 97 yX9_reset ∈ lw_g := lg_in (List.mem_append_right _ (List.mem_of_getElem? (i := 1344) rfl)) rfl
set_option maxRecDepth 100000 in
theorem wg_1346 : Cond.selects "LoomkeeperModel" yX9_reset yX9_reset ∈ lw_g := lg_in (List.mem_append_right _ (List.mem_of_getElem? (i := 1346) rfl)) rfl
set_option maxRecDepth 100000 in
theorem wg_1345 : Cond.instanceMethod yX9_reset ∈ lw_g := lg_in (List.mem_append_right _ (List.mem_of_getElem? (i := 1345) rfl)) rfl
set_option maxRecDepth 100000 in
theorem wg_1351 : Cond.code yX9_canReset prog_11_method_41_code 3 (some .boolean) ∈ lw_g := lg_in (List.mem_append_right _ (List.mem_of_getElem? (i := 1351) rfl)) rfl
set_option maxRecDepth 100000 in
theorem wg_1348 : Cond.methodLink "LoomkeeperModel" 272 yX9_canReset ∈ lw_g := lg_in (List.mem_append_right _ (List.mem_of_getElem? (i := 1348) rfl)) rfl
set_option maxRecDepth 100000 in
theorem ws_71 : Cond.selects RX9 yX9_canReset yX9_canReset ∈ lw_g := lg_in (List.mem_append_left _ (List.mem_of_getElem? (i := 71) rfl)) rfl
set_option maxRecDepth 100000 in
theorem wg_1350 : Cond.instanceMethod yX9_canReset ∈ lw_g := lg_in (List.mem_append_right _ (List.mem_of_getElem? (i := 1350) rfl)) rfl
set_option maxRecDepth 100000 in
theorem wg_1355 : Cond.code yX9_copies prog_11_method_40_code 5 (none : Option Jvm.ClassFile.FieldType) ∈ lw_g := lg_in (List.mem_append_right _ (List.mem_of_getElem? (i := 1355) rfl)) rfl
set_option maxRecDepth 100000 in
theorem wg_1352 : Cond.methodLink "LoomkeeperModel" 275 yX9_copies ∈ lw_g := lg_in (List.mem_append_right _ (List.mem_of_getElem? (i := 1352) rfl)) rfl
set_option maxRecDepth 100000 in
theorem ws_72 : Cond.selects RX9 yX9_copies yX9_copies ∈ lw_g := lg_in (List.mem_append_left _ (List.mem_of_getElem? (i := 72) rfl)) rfl
set_option maxRecDepth 100000 in
theorem wg_1354 : Cond.instanceMethod yX9_copies ∈ lw_g := lg_in (List.mem_append_right _ (List.mem_of_getElem? (i := 1354) rfl)) rfl
set_option maxRecDepth 100000 in
theorem wg_1359 : Cond.code yX9_crash prog_11_method_42_code 3 (some .int) ∈ lw_g := lg_in (List.mem_append_right _ (List.mem_of_getElem? (i := 1359) rfl)) rfl
set_option maxRecDepth 100000 in
theorem wg_1356 : Cond.methodLink "LoomkeeperLaw" 102 yX9_crash ∈ lw_g := lg_in (List.mem_append_right _ (List.mem_of_getElem? (i := 1356) rfl)) rfl
set_option maxRecDepth 100000 in
theorem wg_1358 : Cond.selects "LoomkeeperModel" yX9_crash yX9_crash ∈ lw_g := lg_in (List.mem_append_right _ (List.mem_of_getElem? (i := 1358) rfl)) rfl
set_option maxRecDepth 100000 in
theorem wg_1357 : Cond.instanceMethod yX9_crash ∈ lw_g := lg_in (List.mem_append_right _ (List.mem_of_getElem? (i := 1357) rfl)) rfl
set_option maxRecDepth 100000 in
theorem wg_1363 : Cond.code yX9_poll prog_11_method_43_code 6 (some .int) ∈ lw_g := lg_in (List.mem_append_right _ (List.mem_of_getElem? (i := 1363) rfl)) rfl
set_option maxRecDepth 100000 in
theorem wg_1360 : Cond.methodLink "LoomkeeperLaw" 106 yX9_poll ∈ lw_g := lg_in (List.mem_append_right _ (List.mem_of_getElem? (i := 1360) rfl)) rfl
set_option maxRecDepth 100000 in
theorem wg_1362 : Cond.selects "LoomkeeperModel" yX9_poll yX9_poll ∈ lw_g := lg_in (List.mem_append_right _ (List.mem_of_getElem? (i := 1362) rfl)) rfl
set_option maxRecDepth 100000 in
theorem wg_1361 : Cond.instanceMethod yX9_poll ∈ lw_g := lg_in (List.mem_append_right _ (List.mem_of_getElem? (i := 1361) rfl)) rfl
set_option maxRecDepth 100000 in
theorem wg_1367 : Cond.code yX9_complete prog_11_method_46_code 4 (some .boolean) ∈ lw_g := lg_in (List.mem_append_right _ (List.mem_of_getElem? (i := 1367) rfl)) rfl
set_option maxRecDepth 100000 in
theorem wg_1364 : Cond.methodLink "LoomkeeperLaw" 109 yX9_complete ∈ lw_g := lg_in (List.mem_append_right _ (List.mem_of_getElem? (i := 1364) rfl)) rfl
set_option maxRecDepth 100000 in
theorem wg_1366 : Cond.selects "LoomkeeperModel" yX9_complete yX9_complete ∈ lw_g := lg_in (List.mem_append_right _ (List.mem_of_getElem? (i := 1366) rfl)) rfl
set_option maxRecDepth 100000 in
theorem wg_1365 : Cond.instanceMethod yX9_complete ∈ lw_g := lg_in (List.mem_append_right _ (List.mem_of_getElem? (i := 1365) rfl)) rfl
set_option maxRecDepth 100000 in
theorem wg_1371 : Cond.code yX9_taskOf prog_11_method_44_code 3 (some .int) ∈ lw_g := lg_in (List.mem_append_right _ (List.mem_of_getElem? (i := 1371) rfl)) rfl
set_option maxRecDepth 100000 in
theorem wg_1368 : Cond.methodLink "LoomkeeperModel" 285 yX9_taskOf ∈ lw_g := lg_in (List.mem_append_right _ (List.mem_of_getElem? (i := 1368) rfl)) rfl
set_option maxRecDepth 100000 in
theorem ws_73 : Cond.selects RX9 yX9_taskOf yX9_taskOf ∈ lw_g := lg_in (List.mem_append_left _ (List.mem_of_getElem? (i := 73) rfl)) rfl
set_option maxRecDepth 100000 in
theorem wg_1370 : Cond.instanceMethod yX9_taskOf ∈ lw_g := lg_in (List.mem_append_right _ (List.mem_of_getElem? (i := 1370) rfl)) rfl
set_option maxRecDepth 100000 in
theorem wg_1375 : Cond.code yX9_gets prog_11_method_45_code 5 (none : Option Jvm.ClassFile.FieldType) ∈ lw_g := lg_in (List.mem_append_right _ (List.mem_of_getElem? (i := 1375) rfl)) rfl
set_option maxRecDepth 100000 in
theorem wg_1372 : Cond.methodLink "LoomkeeperModel" 288 yX9_gets ∈ lw_g := lg_in (List.mem_append_right _ (List.mem_of_getElem? (i := 1372) rfl)) rfl
set_option maxRecDepth 100000 in
theorem ws_74 : Cond.selects RX9 yX9_gets yX9_gets ∈ lw_g := lg_in (List.mem_append_left _ (List.mem_of_getElem? (i := 74) rfl)) rfl
set_option maxRecDepth 100000 in
theorem wg_1374 : Cond.instanceMethod yX9_gets ∈ lw_g := lg_in (List.mem_append_right _ (List.mem_of_getElem? (i := 1374) rfl)) rfl
set_option maxRecDepth 100000 in
theorem wg_1379 : Cond.code yX9_fail prog_11_method_48_code 3 (some .boolean) ∈ lw_g := lg_in (List.mem_append_right _ (List.mem_of_getElem? (i := 1379) rfl)) rfl
set_option maxRecDepth 100000 in
theorem wg_1376 : Cond.methodLink "LoomkeeperLaw" 113 yX9_fail ∈ lw_g := lg_in (List.mem_append_right _ (List.mem_of_getElem? (i := 1376) rfl)) rfl
set_option maxRecDepth 100000 in
theorem wg_1378 : Cond.selects "LoomkeeperModel" yX9_fail yX9_fail ∈ lw_g := lg_in (List.mem_append_right _ (List.mem_of_getElem? (i := 1378) rfl)) rfl
set_option maxRecDepth 100000 in
theorem wg_1377 : Cond.instanceMethod yX9_fail ∈ lw_g := lg_in (List.mem_append_right _ (List.mem_of_getElem? (i := 1377) rfl)) rfl
set_option maxRecDepth 100000 in
theorem wg_1383 : Cond.code yX9_failed prog_11_method_47_code 2 (none : Option Jvm.ClassFile.FieldType) ∈ lw_g := lg_in (List.mem_append_right _ (List.mem_of_getElem? (i := 1383) rfl)) rfl
set_option maxRecDepth 100000 in
theorem wg_1380 : Cond.methodLink "LoomkeeperModel" 291 yX9_failed ∈ lw_g := lg_in (List.mem_append_right _ (List.mem_of_getElem? (i := 1380) rfl)) rfl
set_option maxRecDepth 100000 in
theorem ws_75 : Cond.selects RX9 yX9_failed yX9_failed ∈ lw_g := lg_in (List.mem_append_left _ (List.mem_of_getElem? (i := 75) rfl)) rfl
set_option maxRecDepth 100000 in
theorem wg_1382 : Cond.instanceMethod yX9_failed ∈ lw_g := lg_in (List.mem_append_right _ (List.mem_of_getElem? (i := 1382) rfl)) rfl
set_option maxRecDepth 100000 in
theorem wg_1387 : Cond.code yX9_beat prog_11_method_49_code 3 (some .boolean) ∈ lw_g := lg_in (List.mem_append_right _ (List.mem_of_getElem? (i := 1387) rfl)) rfl
set_option maxRecDepth 100000 in
theorem wg_1384 : Cond.methodLink "LoomkeeperLaw" 117 yX9_beat ∈ lw_g := lg_in (List.mem_append_right _ (List.mem_of_getElem? (i := 1384) rfl)) rfl
set_option maxRecDepth 100000 in
theorem wg_1386 : Cond.selects "LoomkeeperModel" yX9_beat yX9_beat ∈ lw_g := lg_in (List.mem_append_right _ (List.mem_of_getElem? (i := 1386) rfl)) rfl
set_option maxRecDepth 100000 in
theorem wg_1385 : Cond.instanceMethod yX9_beat ∈ lw_g := lg_in (List.mem_append_right _ (List.mem_of_getElem? (i := 1385) rfl)) rfl
set_option maxRecDepth 100000 in
theorem wg_1391 : Cond.code yX9_tick prog_11_method_51_code 3 (some .int) ∈ lw_g := lg_in (List.mem_append_right _ (List.mem_of_getElem? (i := 1391) rfl)) rfl
set_option maxRecDepth 100000 in
theorem wg_1388 : Cond.methodLink "LoomkeeperLaw" 120 yX9_tick ∈ lw_g := lg_in (List.mem_append_right _ (List.mem_of_getElem? (i := 1388) rfl)) rfl
set_option maxRecDepth 100000 in
theorem wg_1390 : Cond.selects "LoomkeeperModel" yX9_tick yX9_tick ∈ lw_g := lg_in (List.mem_append_right _ (List.mem_of_getElem? (i := 1390) rfl)) rfl
set_option maxRecDepth 100000 in
theorem wg_1389 : Cond.instanceMethod yX9_tick ∈ lw_g := lg_in (List.mem_append_right _ (List.mem_of_getElem? (i := 1389) rfl)) rfl
set_option maxRecDepth 100000 in
theorem wg_1395 : Cond.code yX9_ticks prog_11_method_50_code 2 (none : Option Jvm.ClassFile.FieldType) ∈ lw_g := lg_in (List.mem_append_right _ (List.mem_of_getElem? (i := 1395) rfl)) rfl
set_option maxRecDepth 100000 in
theorem wg_1392 : Cond.methodLink "LoomkeeperModel" 294 yX9_ticks ∈ lw_g := lg_in (List.mem_append_right _ (List.mem_of_getElem? (i := 1392) rfl)) rfl
set_option maxRecDepth 100000 in
theorem ws_76 : Cond.selects RX9 yX9_ticks yX9_ticks ∈ lw_g := lg_in (List.mem_append_left _ (List.mem_of_getElem? (i := 76) rfl)) rfl
set_option maxRecDepth 100000 in
theorem wg_1394 : Cond.instanceMethod yX9_ticks ∈ lw_g := lg_in (List.mem_append_right _ (List.mem_of_getElem? (i := 1394) rfl)) rfl
set_option maxRecDepth 100000 in
theorem wg_1399 : Cond.code yX9_workflows prog_11_method_52_code 1 (some .int) ∈ lw_g := lg_in (List.mem_append_right _ (List.mem_of_getElem? (i := 1399) rfl)) rfl
set_option maxRecDepth 100000 in
theorem wg_1396 : Cond.methodLink "LoomkeeperLaw" 127 yX9_workflows ∈ lw_g := lg_in (List.mem_append_right _ (List.mem_of_getElem? (i := 1396) rfl)) rfl
set_option maxRecDepth 100000 in
theorem wg_1398 : Cond.selects "LoomkeeperModel" yX9_workflows yX9_workflows ∈ lw_g := lg_in (List.mem_append_right _ (List.mem_of_getElem? (i := 1398) rfl)) rfl
set_option maxRecDepth 100000 in
theorem wg_1397 : Cond.instanceMethod yX9_workflows ∈ lw_g := lg_in (List.mem_append_right _ (List.mem_of_getElem? (i := 1397) rfl)) rfl
set_option maxRecDepth 100000 in
theorem wg_1403 : Cond.code yX9_state prog_11_method_53_code 2 (some .int) ∈ lw_g := lg_in (List.mem_append_right _ (List.mem_of_getElem? (i := 1403) rfl)) rfl
set_option maxRecDepth 100000 in
theorem wg_1400 : Cond.methodLink "LoomkeeperLaw" 130 yX9_state ∈ lw_g := lg_in (List.mem_append_right _ (List.mem_of_getElem? (i := 1400) rfl)) rfl
set_option maxRecDepth 100000 in
theorem wg_1402 : Cond.selects "LoomkeeperModel" yX9_state yX9_state ∈ lw_g := lg_in (List.mem_append_right _ (List.mem_of_getElem? (i := 1402) rfl)) rfl
set_option maxRecDepth 100000 in
theorem wg_1401 : Cond.instanceMethod yX9_state ∈ lw_g := lg_in (List.mem_append_right _ (List.mem_of_getElem? (i := 1401) rfl)) rfl
set_option maxRecDepth 100000 in
theorem wg_1407 : Cond.code yX9_about prog_11_method_55_code 3 (some .int) ∈ lw_g := lg_in (List.mem_append_right _ (List.mem_of_getElem? (i := 1407) rfl)) rfl
set_option maxRecDepth 100000 in
theorem wg_1404 : Cond.methodLink "LoomkeeperLaw" 133 yX9_about ∈ lw_g := lg_in (List.mem_append_right _ (List.mem_of_getElem? (i := 1404) rfl)) rfl
set_option maxRecDepth 100000 in
theorem wg_1406 : Cond.selects "LoomkeeperModel" yX9_about yX9_about ∈ lw_g := lg_in (List.mem_append_right _ (List.mem_of_getElem? (i := 1406) rfl)) rfl
set_option maxRecDepth 100000 in
theorem wg_1405 : Cond.instanceMethod yX9_about ∈ lw_g := lg_in (List.mem_append_right _ (List.mem_of_getElem? (i := 1405) rfl)) rfl
set_option maxRecDepth 100000 in
theorem wg_1411 : Cond.code yX9_told prog_11_method_54_code 5 (some .int) ∈ lw_g := lg_in (List.mem_append_right _ (List.mem_of_getElem? (i := 1411) rfl)) rfl
set_option maxRecDepth 100000 in
theorem wg_1408 : Cond.methodLink "LoomkeeperModel" 297 yX9_told ∈ lw_g := lg_in (List.mem_append_right _ (List.mem_of_getElem? (i := 1408) rfl)) rfl
set_option maxRecDepth 100000 in
theorem ws_77 : Cond.selects RX9 yX9_told yX9_told ∈ lw_g := lg_in (List.mem_append_left _ (List.mem_of_getElem? (i := 77) rfl)) rfl
set_option maxRecDepth 100000 in
theorem wg_1410 : Cond.instanceMethod yX9_told ∈ lw_g := lg_in (List.mem_append_right _ (List.mem_of_getElem? (i := 1410) rfl)) rfl
set_option maxRecDepth 100000 in
theorem wg_1415 : Cond.code yX9_aboutAnew prog_11_method_56_code 3 (some .int) ∈ lw_g := lg_in (List.mem_append_right _ (List.mem_of_getElem? (i := 1415) rfl)) rfl
set_option maxRecDepth 100000 in
theorem wg_1412 : Cond.methodLink "LoomkeeperLaw" 136 yX9_aboutAnew ∈ lw_g := lg_in (List.mem_append_right _ (List.mem_of_getElem? (i := 1412) rfl)) rfl
set_option maxRecDepth 100000 in
theorem wg_1414 : Cond.selects "LoomkeeperModel" yX9_aboutAnew yX9_aboutAnew ∈ lw_g := lg_in (List.mem_append_right _ (List.mem_of_getElem? (i := 1414) rfl)) rfl
set_option maxRecDepth 100000 in
theorem wg_1413 : Cond.instanceMethod yX9_aboutAnew ∈ lw_g := lg_in (List.mem_append_right _ (List.mem_of_getElem? (i := 1413) rfl)) rfl
set_option maxRecDepth 100000 in
theorem wg_1419 : Cond.code yX9_parent prog_11_method_57_code 2 (some .int) ∈ lw_g := lg_in (List.mem_append_right _ (List.mem_of_getElem? (i := 1419) rfl)) rfl
set_option maxRecDepth 100000 in
theorem wg_1416 : Cond.methodLink "LoomkeeperLaw" 139 yX9_parent ∈ lw_g := lg_in (List.mem_append_right _ (List.mem_of_getElem? (i := 1416) rfl)) rfl
set_option maxRecDepth 100000 in
theorem wg_1418 : Cond.selects "LoomkeeperModel" yX9_parent yX9_parent ∈ lw_g := lg_in (List.mem_append_right _ (List.mem_of_getElem? (i := 1418) rfl)) rfl
set_option maxRecDepth 100000 in
theorem wg_1417 : Cond.instanceMethod yX9_parent ∈ lw_g := lg_in (List.mem_append_right _ (List.mem_of_getElem? (i := 1417) rfl)) rfl
set_option maxRecDepth 100000 in
theorem wg_1423 : Cond.code yX9_events prog_11_method_58_code 2 (some .int) ∈ lw_g := lg_in (List.mem_append_right _ (List.mem_of_getElem? (i := 1423) rfl)) rfl
set_option maxRecDepth 100000 in
theorem wg_1420 : Cond.methodLink "LoomkeeperLaw" 142 yX9_events ∈ lw_g := lg_in (List.mem_append_right _ (List.mem_of_getElem? (i := 1420) rfl)) rfl
set_option maxRecDepth 100000 in
theorem wg_1422 : Cond.selects "LoomkeeperModel" yX9_events yX9_events ∈ lw_g := lg_in (List.mem_append_right _ (List.mem_of_getElem? (i := 1422) rfl)) rfl
set_option maxRecDepth 100000 in
theorem wg_1421 : Cond.instanceMethod yX9_events ∈ lw_g := lg_in (List.mem_append_right _ (List.mem_of_getElem? (i := 1421) rfl)) rfl
set_option maxRecDepth 100000 in
theorem wg_1427 : Cond.code yX9_kind prog_11_method_60_code 3 (some .int) ∈ lw_g := lg_in (List.mem_append_right _ (List.mem_of_getElem? (i := 1427) rfl)) rfl
set_option maxRecDepth 100000 in
theorem wg_1424 : Cond.methodLink "LoomkeeperLaw" 145 yX9_kind ∈ lw_g := lg_in (List.mem_append_right _ (List.mem_of_getElem? (i := 1424) rfl)) rfl
set_option maxRecDepth 100000 in
theorem wg_1426 : Cond.selects "LoomkeeperModel" yX9_kind yX9_kind ∈ lw_g := lg_in (List.mem_append_right _ (List.mem_of_getElem? (i := 1426) rfl)) rfl
set_option maxRecDepth 100000 in
theorem wg_1425 : Cond.instanceMethod yX9_kind ∈ lw_g := lg_in (List.mem_append_right _ (List.mem_of_getElem? (i := 1425) rfl)) rfl
set_option maxRecDepth 100000 in
theorem wg_1431 : Cond.code yX9_isEvent prog_11_method_59_code 3 (some .boolean) ∈ lw_g := lg_in (List.mem_append_right _ (List.mem_of_getElem? (i := 1431) rfl)) rfl
set_option maxRecDepth 100000 in
theorem wg_1428 : Cond.methodLink "LoomkeeperModel" 300 yX9_isEvent ∈ lw_g := lg_in (List.mem_append_right _ (List.mem_of_getElem? (i := 1428) rfl)) rfl
set_option maxRecDepth 100000 in
theorem ws_78 : Cond.selects RX9 yX9_isEvent yX9_isEvent ∈ lw_g := lg_in (List.mem_append_left _ (List.mem_of_getElem? (i := 78) rfl)) rfl
set_option maxRecDepth 100000 in
theorem wg_1430 : Cond.instanceMethod yX9_isEvent ∈ lw_g := lg_in (List.mem_append_right _ (List.mem_of_getElem? (i := 1430) rfl)) rfl
set_option maxRecDepth 100000 in
theorem wg_1435 : Cond.code yX9_number prog_11_method_61_code 3 (some .long) ∈ lw_g := lg_in (List.mem_append_right _ (List.mem_of_getElem? (i := 1435) rfl)) rfl
set_option maxRecDepth 100000 in
theorem wg_1432 : Cond.methodLink "LoomkeeperLaw" 148 yX9_number ∈ lw_g := lg_in (List.mem_append_right _ (List.mem_of_getElem? (i := 1432) rfl)) rfl
set_option maxRecDepth 100000 in
theorem wg_1434 : Cond.selects "LoomkeeperModel" yX9_number yX9_number ∈ lw_g := lg_in (List.mem_append_right _ (List.mem_of_getElem? (i := 1434) rfl)) rfl
set_option maxRecDepth 100000 in
theorem wg_1433 : Cond.instanceMethod yX9_number ∈ lw_g := lg_in (List.mem_append_right _ (List.mem_of_getElem? (i := 1433) rfl)) rfl
set_option maxRecDepth 100000 in
theorem wg_1439 : Cond.code yX9_tasks prog_11_method_62_code 1 (some .int) ∈ lw_g := lg_in (List.mem_append_right _ (List.mem_of_getElem? (i := 1439) rfl)) rfl
set_option maxRecDepth 100000 in
theorem wg_1436 : Cond.methodLink "LoomkeeperLaw" 152 yX9_tasks ∈ lw_g := lg_in (List.mem_append_right _ (List.mem_of_getElem? (i := 1436) rfl)) rfl
set_option maxRecDepth 100000 in
theorem wg_1438 : Cond.selects "LoomkeeperModel" yX9_tasks yX9_tasks ∈ lw_g := lg_in (List.mem_append_right _ (List.mem_of_getElem? (i := 1438) rfl)) rfl
set_option maxRecDepth 100000 in
theorem wg_1437 : Cond.instanceMethod yX9_tasks ∈ lw_g := lg_in (List.mem_append_right _ (List.mem_of_getElem? (i := 1437) rfl)) rfl
set_option maxRecDepth 100000 in
theorem wg_1443 : Cond.code yX9_task prog_11_method_63_code 3 (some .int) ∈ lw_g := lg_in (List.mem_append_right _ (List.mem_of_getElem? (i := 1443) rfl)) rfl
set_option maxRecDepth 100000 in
theorem wg_1440 : Cond.methodLink "LoomkeeperLaw" 155 yX9_task ∈ lw_g := lg_in (List.mem_append_right _ (List.mem_of_getElem? (i := 1440) rfl)) rfl
set_option maxRecDepth 100000 in
theorem wg_1442 : Cond.selects "LoomkeeperModel" yX9_task yX9_task ∈ lw_g := lg_in (List.mem_append_right _ (List.mem_of_getElem? (i := 1442) rfl)) rfl
set_option maxRecDepth 100000 in
theorem wg_1441 : Cond.instanceMethod yX9_task ∈ lw_g := lg_in (List.mem_append_right _ (List.mem_of_getElem? (i := 1441) rfl)) rfl
set_option maxRecDepth 100000 in
theorem wg_1447 : Cond.code yX9_now prog_11_method_64_code 1 (some .int) ∈ lw_g := lg_in (List.mem_append_right _ (List.mem_of_getElem? (i := 1447) rfl)) rfl
set_option maxRecDepth 100000 in
theorem wg_1444 : Cond.methodLink "LoomkeeperLaw" 159 yX9_now ∈ lw_g := lg_in (List.mem_append_right _ (List.mem_of_getElem? (i := 1444) rfl)) rfl
set_option maxRecDepth 100000 in
theorem wg_1446 : Cond.selects "LoomkeeperModel" yX9_now yX9_now ∈ lw_g := lg_in (List.mem_append_right _ (List.mem_of_getElem? (i := 1446) rfl)) rfl
set_option maxRecDepth 100000 in
theorem wg_1445 : Cond.instanceMethod yX9_now ∈ lw_g := lg_in (List.mem_append_right _ (List.mem_of_getElem? (i := 1445) rfl)) rfl
set_option maxRecDepth 100000 in
theorem wg_16 : Cond.initialized "java/lang/IndexOutOfBoundsException" ∈ lw_g := lg_in (List.mem_append_right _ (List.mem_of_getElem? (i := 16) rfl)) rfl
set_option maxRecDepth 100000 in
theorem wg_17 : Cond.initialized "java/lang/IllegalArgumentException" ∈ lw_g := lg_in (List.mem_append_right _ (List.mem_of_getElem? (i := 17) rfl)) rfl
set_option maxRecDepth 100000 in
theorem wg_22 : Cond.initialized "java/lang/System" ∈ lw_g := lg_in (List.mem_append_right _ (List.mem_of_getElem? (i := 22) rfl)) rfl
set_option maxRecDepth 100000 in
theorem wg_23 : Cond.initialized "java/lang/IllegalStateException" ∈ lw_g := lg_in (List.mem_append_right _ (List.mem_of_getElem? (i := 23) rfl)) rfl
set_option maxRecDepth 100000 in
theorem wg_26 : Cond.classLink "LoomkeeperLaw" 8 "Loomkeeper" ∈ lw_g := lg_in (List.mem_append_right _ (List.mem_of_getElem? (i := 26) rfl)) rfl
set_option maxRecDepth 100000 in
theorem wg_34 : Cond.classLink "Loomkeeper" 9 "Loomkeeper$Program" ∈ lw_g := lg_in (List.mem_append_right _ (List.mem_of_getElem? (i := 34) rfl)) rfl
set_option maxRecDepth 100000 in
theorem wn_35 : Cond.arrayOver (.object "Loomkeeper$Program") ∈ lw_n := ln_in (List.mem_append_right _ (List.mem_of_getElem? (i := 35) rfl)) rfl
set_option maxRecDepth 100000 in
theorem wg_36 : Cond.classLink "Loomkeeper" 19 "Loomkeeper$Flow" ∈ lw_g := lg_in (List.mem_append_right _ (List.mem_of_getElem? (i := 36) rfl)) rfl
set_option maxRecDepth 100000 in
theorem wn_37 : Cond.arrayOver (.object "Loomkeeper$Flow") ∈ lw_n := ln_in (List.mem_append_right _ (List.mem_of_getElem? (i := 37) rfl)) rfl
set_option maxRecDepth 100000 in
theorem wg_38 : Cond.classLink "Loomkeeper" 25 "java/util/ArrayList" ∈ lw_g := lg_in (List.mem_append_right _ (List.mem_of_getElem? (i := 38) rfl)) rfl
set_option maxRecDepth 100000 in
theorem wg_64 : Cond.arrayClass .int ∈ lw_g := lg_in (List.mem_append_right _ (List.mem_of_getElem? (i := 64) rfl)) rfl
set_option maxRecDepth 100000 in
theorem wg_65 : Cond.classLink "Loomkeeper" 32 "Loomkeeper$Line" ∈ lw_g := lg_in (List.mem_append_right _ (List.mem_of_getElem? (i := 65) rfl)) rfl
set_option maxRecDepth 100000 in
theorem wg_71 : Cond.classLink "Loomkeeper$Line" 9 "Loomkeeper$Flow" ∈ lw_g := lg_in (List.mem_append_right _ (List.mem_of_getElem? (i := 71) rfl)) rfl
set_option maxRecDepth 100000 in
theorem wg_101 : Cond.classLink "Loomkeeper" 49 "Loomkeeper$History" ∈ lw_g := lg_in (List.mem_append_right _ (List.mem_of_getElem? (i := 101) rfl)) rfl
set_option maxRecDepth 100000 in
theorem wg_117 : Cond.arrayClass .byte ∈ lw_g := lg_in (List.mem_append_right _ (List.mem_of_getElem? (i := 117) rfl)) rfl
set_option maxRecDepth 100000 in
theorem wg_118 : Cond.arrayClass .long ∈ lw_g := lg_in (List.mem_append_right _ (List.mem_of_getElem? (i := 118) rfl)) rfl
set_option maxRecDepth 100000 in
theorem wg_120 : Cond.classLink "Loomkeeper" 52 "Loomkeeper$Run" ∈ lw_g := lg_in (List.mem_append_right _ (List.mem_of_getElem? (i := 120) rfl)) rfl
set_option maxRecDepth 100000 in
theorem wg_126 : Cond.classLink "Loomkeeper$Run" 9 "Loomkeeper$Pile" ∈ lw_g := lg_in (List.mem_append_right _ (List.mem_of_getElem? (i := 126) rfl)) rfl
set_option maxRecDepth 100000 in
theorem wg_140 : Cond.classLink "Loomkeeper$Run" 18 "Loomkeeper$Signals" ∈ lw_g := lg_in (List.mem_append_right _ (List.mem_of_getElem? (i := 140) rfl)) rfl
set_option maxRecDepth 100000 in
theorem wg_334 : Cond.constantLong "Loomkeeper$History" 31 10 ∈ lw_g := lg_in (List.mem_append_right _ (List.mem_of_getElem? (i := 334) rfl)) rfl
set_option maxRecDepth 100000 in
theorem wg_355 : Cond.constant "Loomkeeper$Run" 94 1000000 ∈ lw_g := lg_in (List.mem_append_right _ (List.mem_of_getElem? (i := 355) rfl)) rfl
set_option maxRecDepth 100000 in
theorem wg_369 : Cond.constantLong "Loomkeeper$Run" 128 (-1) ∈ lw_g := lg_in (List.mem_append_right _ (List.mem_of_getElem? (i := 369) rfl)) rfl
set_option maxRecDepth 100000 in
theorem wg_370 : Cond.constantLong "Loomkeeper$Run" 112 10 ∈ lw_g := lg_in (List.mem_append_right _ (List.mem_of_getElem? (i := 370) rfl)) rfl
set_option maxRecDepth 100000 in
theorem wg_371 : Cond.constantLong "Loomkeeper$Run" 130 4 ∈ lw_g := lg_in (List.mem_append_right _ (List.mem_of_getElem? (i := 371) rfl)) rfl
set_option maxRecDepth 100000 in
theorem wg_515 : Cond.constant "Loomkeeper" 340 1000000 ∈ lw_g := lg_in (List.mem_append_right _ (List.mem_of_getElem? (i := 515) rfl)) rfl
set_option maxRecDepth 100000 in
theorem wg_561 : Cond.constantLong "Loomkeeper" 375 (-1) ∈ lw_g := lg_in (List.mem_append_right _ (List.mem_of_getElem? (i := 561) rfl)) rfl
set_option maxRecDepth 100000 in
theorem wg_566 : Cond.classLink "Loomkeeper" 210 "Loomkeeper$Task" ∈ lw_g := lg_in (List.mem_append_right _ (List.mem_of_getElem? (i := 566) rfl)) rfl
set_option maxRecDepth 100000 in
theorem wg_623 : Cond.constant "jdk/internal/util/ArraysSupport" 200 2147483639 ∈ lw_g := lg_in (List.mem_append_right _ (List.mem_of_getElem? (i := 623) rfl)) rfl
set_option maxRecDepth 100000 in
theorem wg_630 : Cond.methodLink "java/util/Arrays" 86 (⟨"java/lang/Object", "getClass", "()Ljava/lang/Class;"⟩ : MethodName) ∈ lw_g := lg_in (List.mem_append_right _ (List.mem_of_getElem? (i := 630) rfl)) rfl
set_option maxRecDepth 100000 in
theorem wg_631 : Cond.instanceMethod (⟨"java/lang/Object", "getClass", "()Ljava/lang/Class;"⟩ : MethodName) ∈ lw_g := lg_in (List.mem_append_right _ (List.mem_of_getElem? (i := 631) rfl)) rfl
set_option maxRecDepth 100000 in
theorem wg_647 : Cond.native (⟨"java/lang/Object", "getClass", "()Ljava/lang/Class;"⟩ : MethodName) ∈ lw_g := lg_in (List.mem_append_right _ (List.mem_of_getElem? (i := 647) rfl)) rfl
set_option maxRecDepth 100000 in
theorem wg_651 : Cond.classLink "java/util/Arrays" 110 "[Ljava/lang/Object;" ∈ lw_g := lg_in (List.mem_append_right _ (List.mem_of_getElem? (i := 651) rfl)) rfl
set_option maxRecDepth 100000 in
theorem wn_652 : Cond.arrayOver (.object "java/lang/Object") ∈ lw_n := ln_in (List.mem_append_right _ (List.mem_of_getElem? (i := 652) rfl)) rfl
set_option maxRecDepth 100000 in
theorem wg_653 : Cond.classLink "java/util/Arrays" 2 "java/lang/Object" ∈ lw_g := lg_in (List.mem_append_right _ (List.mem_of_getElem? (i := 653) rfl)) rfl
set_option maxRecDepth 100000 in
theorem wg_657 : Cond.methodLink "java/util/Arrays" 150 (⟨"java/lang/System", "arraycopy", "(Ljava/lang/Object;ILjava/lang/Object;II)V"⟩ : MethodName) ∈ lw_g := lg_in (List.mem_append_right _ (List.mem_of_getElem? (i := 657) rfl)) rfl
set_option maxRecDepth 100000 in
theorem wg_658 : Cond.static (⟨"java/lang/System", "arraycopy", "(Ljava/lang/Object;ILjava/lang/Object;II)V"⟩ : MethodName) ∈ lw_g := lg_in (List.mem_append_right _ (List.mem_of_getElem? (i := 658) rfl)) rfl
set_option maxRecDepth 100000 in
theorem wg_659 : Cond.native (⟨"java/lang/System", "arraycopy", "(Ljava/lang/Object;ILjava/lang/Object;II)V"⟩ : MethodName) ∈ lw_g := lg_in (List.mem_append_right _ (List.mem_of_getElem? (i := 659) rfl)) rfl
set_option maxRecDepth 100000 in
theorem wg_661 : Cond.classLink "java/util/ArrayList" 7 "java/lang/Object" ∈ lw_g := lg_in (List.mem_append_right _ (List.mem_of_getElem? (i := 661) rfl)) rfl
set_option maxRecDepth 100000 in
theorem wg_666 : Cond.constant "Loomkeeper" 427 65537 ∈ lw_g := lg_in (List.mem_append_right _ (List.mem_of_getElem? (i := 666) rfl)) rfl
set_option maxRecDepth 100000 in
theorem wg_709 : Cond.methodLink "LoomkeeperLaw" 74 yL_set ∈ lw_g := lg_in (List.mem_append_right _ (List.mem_of_getElem? (i := 709) rfl)) rfl
set_option maxRecDepth 100000 in
theorem wg_710 : Cond.static yL_set ∈ lw_g := lg_in (List.mem_append_right _ (List.mem_of_getElem? (i := 710) rfl)) rfl
set_option maxRecDepth 100000 in
theorem wg_0 : Cond.initialized "LoomkeeperLaw" ∈ lw_g := lg_in (List.mem_append_right _ (List.mem_of_getElem? (i := 0) rfl)) rfl
set_option maxRecDepth 100000 in
theorem wg_711 : Cond.codeWith yL_set method_3_code 8 (some .int) [(0, 16, 19, 13), (0, 16, 23, 15)] ∈ lw_g := lg_in (List.mem_append_right _ (List.mem_of_getElem? (i := 711) rfl)) rfl
set_option maxRecDepth 100000 in
theorem wg_712 : Cond.classLink "LoomkeeperLaw" 13 "java/lang/IndexOutOfBoundsException" ∈ lw_g := lg_in (List.mem_append_right _ (List.mem_of_getElem? (i := 712) rfl)) rfl
set_option maxRecDepth 100000 in
theorem wg_713 : Cond.classLink "LoomkeeperLaw" 15 "java/lang/IllegalArgumentException" ∈ lw_g := lg_in (List.mem_append_right _ (List.mem_of_getElem? (i := 713) rfl)) rfl
set_option maxRecDepth 100000 in
theorem wg_721 : Cond.classLink "Loomkeeper" 72 "java/lang/IndexOutOfBoundsException" ∈ lw_g := lg_in (List.mem_append_right _ (List.mem_of_getElem? (i := 721) rfl)) rfl
set_option maxRecDepth 100000 in
theorem wn_723 : Cond.castable "java/lang/IndexOutOfBoundsException" "java/lang/IndexOutOfBoundsException" ∈ lw_n := ln_in (List.mem_append_right _ (List.mem_of_getElem? (i := 723) rfl)) rfl
set_option maxRecDepth 100000 in
theorem wg_791 : Cond.classLink "Loomkeeper" 83 "java/lang/IllegalArgumentException" ∈ lw_g := lg_in (List.mem_append_right _ (List.mem_of_getElem? (i := 791) rfl)) rfl
set_option maxRecDepth 100000 in
theorem wn_793 : Cond.castable "java/lang/IllegalArgumentException" "java/lang/IllegalArgumentException" ∈ lw_n := ln_in (List.mem_append_right _ (List.mem_of_getElem? (i := 793) rfl)) rfl
set_option maxRecDepth 100000 in
theorem wg_819 : Cond.methodLink "LoomkeeperLaw" 80 yL_check ∈ lw_g := lg_in (List.mem_append_right _ (List.mem_of_getElem? (i := 819) rfl)) rfl
set_option maxRecDepth 100000 in
theorem wg_820 : Cond.static yL_check ∈ lw_g := lg_in (List.mem_append_right _ (List.mem_of_getElem? (i := 820) rfl)) rfl
set_option maxRecDepth 100000 in
theorem wg_821 : Cond.codeWith yL_check method_4_code 8 (some .int) [(0, 16, 19, 13), (0, 16, 23, 15)] ∈ lw_g := lg_in (List.mem_append_right _ (List.mem_of_getElem? (i := 821) rfl)) rfl
set_option maxRecDepth 100000 in
theorem wg_833 : Cond.methodLink "LoomkeeperLaw" 83 yL_start ∈ lw_g := lg_in (List.mem_append_right _ (List.mem_of_getElem? (i := 833) rfl)) rfl
set_option maxRecDepth 100000 in
theorem wg_834 : Cond.static yL_start ∈ lw_g := lg_in (List.mem_append_right _ (List.mem_of_getElem? (i := 834) rfl)) rfl
set_option maxRecDepth 100000 in
theorem wg_835 : Cond.codeWith yL_start method_5_code 5 (some .int) [(0, 10, 13, 13), (0, 10, 17, 15), (0, 10, 21, 24)] ∈ lw_g := lg_in (List.mem_append_right _ (List.mem_of_getElem? (i := 835) rfl)) rfl
set_option maxRecDepth 100000 in
theorem wg_836 : Cond.classLink "LoomkeeperLaw" 24 "java/lang/IllegalStateException" ∈ lw_g := lg_in (List.mem_append_right _ (List.mem_of_getElem? (i := 836) rfl)) rfl
set_option maxRecDepth 100000 in
theorem wg_843 : Cond.classLink "Loomkeeper" 145 "java/lang/IllegalStateException" ∈ lw_g := lg_in (List.mem_append_right _ (List.mem_of_getElem? (i := 843) rfl)) rfl
set_option maxRecDepth 100000 in
theorem wn_845 : Cond.castable "java/lang/IllegalStateException" "java/lang/IllegalStateException" ∈ lw_n := ln_in (List.mem_append_right _ (List.mem_of_getElem? (i := 845) rfl)) rfl
set_option maxRecDepth 100000 in
theorem wg_859 : Cond.methodLink "LoomkeeperLaw" 87 yL_signal ∈ lw_g := lg_in (List.mem_append_right _ (List.mem_of_getElem? (i := 859) rfl)) rfl
set_option maxRecDepth 100000 in
theorem wg_860 : Cond.static yL_signal ∈ lw_g := lg_in (List.mem_append_right _ (List.mem_of_getElem? (i := 860) rfl)) rfl
set_option maxRecDepth 100000 in
theorem wg_861 : Cond.codeWith yL_signal method_6_code 6 (some .int) [(0, 19, 22, 13), (0, 19, 26, 15)] ∈ lw_g := lg_in (List.mem_append_right _ (List.mem_of_getElem? (i := 861) rfl)) rfl
set_option maxRecDepth 100000 in
theorem wg_868 : Cond.constantLong "Loomkeeper" 157 100 ∈ lw_g := lg_in (List.mem_append_right _ (List.mem_of_getElem? (i := 868) rfl)) rfl
set_option maxRecDepth 100000 in
theorem wg_873 : Cond.methodLink "LoomkeeperLaw" 91 yL_cancel ∈ lw_g := lg_in (List.mem_append_right _ (List.mem_of_getElem? (i := 873) rfl)) rfl
set_option maxRecDepth 100000 in
theorem wg_874 : Cond.static yL_cancel ∈ lw_g := lg_in (List.mem_append_right _ (List.mem_of_getElem? (i := 874) rfl)) rfl
set_option maxRecDepth 100000 in
theorem wg_875 : Cond.codeWith yL_cancel method_7_code 4 (some .int) [(0, 16, 19, 13)] ∈ lw_g := lg_in (List.mem_append_right _ (List.mem_of_getElem? (i := 875) rfl)) rfl
set_option maxRecDepth 100000 in
theorem wg_880 : Cond.methodLink "LoomkeeperLaw" 95 yL_reset ∈ lw_g := lg_in (List.mem_append_right _ (List.mem_of_getElem? (i := 880) rfl)) rfl
set_option maxRecDepth 100000 in
theorem wg_881 : Cond.static yL_reset ∈ lw_g := lg_in (List.mem_append_right _ (List.mem_of_getElem? (i := 881) rfl)) rfl
set_option maxRecDepth 100000 in
theorem wg_882 : Cond.codeWith yL_reset method_8_code 5 (some .int) [(0, 10, 13, 13), (0, 10, 17, 15), (0, 10, 21, 24)] ∈ lw_g := lg_in (List.mem_append_right _ (List.mem_of_getElem? (i := 882) rfl)) rfl
set_option maxRecDepth 100000 in
theorem wg_904 : Cond.methodLink "LoomkeeperLaw" 107 yL_complete ∈ lw_g := lg_in (List.mem_append_right _ (List.mem_of_getElem? (i := 904) rfl)) rfl
set_option maxRecDepth 100000 in
theorem wg_905 : Cond.static yL_complete ∈ lw_g := lg_in (List.mem_append_right _ (List.mem_of_getElem? (i := 905) rfl)) rfl
set_option maxRecDepth 100000 in
theorem wg_906 : Cond.codeWith yL_complete method_9_code 5 (some .int) [(0, 17, 20, 15)] ∈ lw_g := lg_in (List.mem_append_right _ (List.mem_of_getElem? (i := 906) rfl)) rfl
set_option maxRecDepth 100000 in
theorem wg_913 : Cond.methodLink "LoomkeeperLaw" 118 yL_tick ∈ lw_g := lg_in (List.mem_append_right _ (List.mem_of_getElem? (i := 913) rfl)) rfl
set_option maxRecDepth 100000 in
theorem wg_914 : Cond.static yL_tick ∈ lw_g := lg_in (List.mem_append_right _ (List.mem_of_getElem? (i := 914) rfl)) rfl
set_option maxRecDepth 100000 in
theorem wg_915 : Cond.codeWith yL_tick method_10_code 4 (some .int) [(0, 9, 12, 15)] ∈ lw_g := lg_in (List.mem_append_right _ (List.mem_of_getElem? (i := 915) rfl)) rfl
set_option maxRecDepth 100000 in
theorem wg_960 : Cond.methodLink "LoomkeeperLaw" 128 yL_state ∈ lw_g := lg_in (List.mem_append_right _ (List.mem_of_getElem? (i := 960) rfl)) rfl
set_option maxRecDepth 100000 in
theorem wg_961 : Cond.static yL_state ∈ lw_g := lg_in (List.mem_append_right _ (List.mem_of_getElem? (i := 961) rfl)) rfl
set_option maxRecDepth 100000 in
theorem wg_962 : Cond.codeWith yL_state method_11_code 4 (some .int) [(0, 9, 12, 13)] ∈ lw_g := lg_in (List.mem_append_right _ (List.mem_of_getElem? (i := 962) rfl)) rfl
set_option maxRecDepth 100000 in
theorem wg_967 : Cond.methodLink "LoomkeeperLaw" 131 yL_about ∈ lw_g := lg_in (List.mem_append_right _ (List.mem_of_getElem? (i := 967) rfl)) rfl
set_option maxRecDepth 100000 in
theorem wg_968 : Cond.static yL_about ∈ lw_g := lg_in (List.mem_append_right _ (List.mem_of_getElem? (i := 968) rfl)) rfl
set_option maxRecDepth 100000 in
theorem wg_969 : Cond.codeWith yL_about method_12_code 5 (some .int) [(0, 10, 13, 13), (0, 10, 17, 15), (0, 10, 21, 24)] ∈ lw_g := lg_in (List.mem_append_right _ (List.mem_of_getElem? (i := 969) rfl)) rfl
set_option maxRecDepth 100000 in
theorem wg_992 : Cond.methodLink "LoomkeeperLaw" 134 yL_aboutAnew ∈ lw_g := lg_in (List.mem_append_right _ (List.mem_of_getElem? (i := 992) rfl)) rfl
set_option maxRecDepth 100000 in
theorem wg_993 : Cond.static yL_aboutAnew ∈ lw_g := lg_in (List.mem_append_right _ (List.mem_of_getElem? (i := 993) rfl)) rfl
set_option maxRecDepth 100000 in
theorem wg_994 : Cond.codeWith yL_aboutAnew method_13_code 5 (some .int) [(0, 10, 13, 13), (0, 10, 17, 15), (0, 10, 21, 24)] ∈ lw_g := lg_in (List.mem_append_right _ (List.mem_of_getElem? (i := 994) rfl)) rfl
set_option maxRecDepth 100000 in
theorem wg_999 : Cond.methodLink "LoomkeeperLaw" 137 yL_parent ∈ lw_g := lg_in (List.mem_append_right _ (List.mem_of_getElem? (i := 999) rfl)) rfl
set_option maxRecDepth 100000 in
theorem wg_1000 : Cond.static yL_parent ∈ lw_g := lg_in (List.mem_append_right _ (List.mem_of_getElem? (i := 1000) rfl)) rfl
set_option maxRecDepth 100000 in
theorem wg_1001 : Cond.codeWith yL_parent method_14_code 4 (some .int) [(0, 9, 12, 13)] ∈ lw_g := lg_in (List.mem_append_right _ (List.mem_of_getElem? (i := 1001) rfl)) rfl
set_option maxRecDepth 100000 in
theorem wg_1006 : Cond.methodLink "LoomkeeperLaw" 140 yL_events ∈ lw_g := lg_in (List.mem_append_right _ (List.mem_of_getElem? (i := 1006) rfl)) rfl
set_option maxRecDepth 100000 in
theorem wg_1007 : Cond.static yL_events ∈ lw_g := lg_in (List.mem_append_right _ (List.mem_of_getElem? (i := 1007) rfl)) rfl
set_option maxRecDepth 100000 in
theorem wg_1008 : Cond.codeWith yL_events method_15_code 4 (some .int) [(0, 9, 12, 13)] ∈ lw_g := lg_in (List.mem_append_right _ (List.mem_of_getElem? (i := 1008) rfl)) rfl
set_option maxRecDepth 100000 in
theorem wg_1013 : Cond.methodLink "LoomkeeperLaw" 143 yL_kind ∈ lw_g := lg_in (List.mem_append_right _ (List.mem_of_getElem? (i := 1013) rfl)) rfl
set_option maxRecDepth 100000 in
theorem wg_1014 : Cond.static yL_kind ∈ lw_g := lg_in (List.mem_append_right _ (List.mem_of_getElem? (i := 1014) rfl)) rfl
set_option maxRecDepth 100000 in
theorem wg_1015 : Cond.codeWith yL_kind method_16_code 5 (some .int) [(0, 10, 13, 13)] ∈ lw_g := lg_in (List.mem_append_right _ (List.mem_of_getElem? (i := 1015) rfl)) rfl
set_option maxRecDepth 100000 in
theorem wg_1021 : Cond.methodLink "LoomkeeperLaw" 146 yL_number ∈ lw_g := lg_in (List.mem_append_right _ (List.mem_of_getElem? (i := 1021) rfl)) rfl
set_option maxRecDepth 100000 in
theorem wg_1022 : Cond.static yL_number ∈ lw_g := lg_in (List.mem_append_right _ (List.mem_of_getElem? (i := 1022) rfl)) rfl
set_option maxRecDepth 100000 in
theorem wg_1023 : Cond.codeWith yL_number method_17_code 5 (some .int) [(0, 9, 12, 13)] ∈ lw_g := lg_in (List.mem_append_right _ (List.mem_of_getElem? (i := 1023) rfl)) rfl
set_option maxRecDepth 100000 in
theorem wg_1028 : Cond.methodLink "LoomkeeperLaw" 153 yL_task ∈ lw_g := lg_in (List.mem_append_right _ (List.mem_of_getElem? (i := 1028) rfl)) rfl
set_option maxRecDepth 100000 in
theorem wg_1029 : Cond.static yL_task ∈ lw_g := lg_in (List.mem_append_right _ (List.mem_of_getElem? (i := 1029) rfl)) rfl
set_option maxRecDepth 100000 in
theorem wg_1030 : Cond.codeWith yL_task method_18_code 5 (some .int) [(0, 10, 13, 13), (0, 10, 17, 15)] ∈ lw_g := lg_in (List.mem_append_right _ (List.mem_of_getElem? (i := 1030) rfl)) rfl
set_option maxRecDepth 100000 in
theorem wg_1040 : Cond.classLink "LoomkeeperLaw" 71 "LoomkeeperModel" ∈ lw_g := lg_in (List.mem_append_right _ (List.mem_of_getElem? (i := 1040) rfl)) rfl
set_option maxRecDepth 100000 in
theorem wg_1238 : Cond.constantLong "LoomkeeperModel" 147 100 ∈ lw_g := lg_in (List.mem_append_right _ (List.mem_of_getElem? (i := 1238) rfl)) rfl
set_option maxRecDepth 100000 in
theorem wg_1247 : Cond.constantLong "LoomkeeperModel" 162 10 ∈ lw_g := lg_in (List.mem_append_right _ (List.mem_of_getElem? (i := 1247) rfl)) rfl
set_option maxRecDepth 100000 in
theorem wg_1287 : Cond.constant "LoomkeeperModel" 215 65537 ∈ lw_g := lg_in (List.mem_append_right _ (List.mem_of_getElem? (i := 1287) rfl)) rfl
set_option maxRecDepth 100000 in
theorem wn_1461 : Cond.castable "Loomkeeper$Task" "java/lang/Object" ∈ lw_n := ln_in (List.mem_append_right _ (List.mem_of_getElem? (i := 1461) rfl)) rfl
set_option maxRecDepth 100000 in
theorem wg_1466 : Cond.selects "[Ljava/lang/Object;" (⟨"java/lang/Object", "getClass", "()Ljava/lang/Class;"⟩ : MethodName) (⟨"java/lang/Object", "getClass", "()Ljava/lang/Class;"⟩ : MethodName) ∈ lw_g := lg_in (List.mem_append_right _ (List.mem_of_getElem? (i := 1466) rfl)) rfl
set_option maxRecDepth 100000 in
theorem wg_31 : Cond.methodLink "Loomkeeper" 1 (⟨"java/lang/Object", "<init>", "()V"⟩ : MethodName) ∈ lw_g := lg_in (List.mem_append_right _ (List.mem_of_getElem? (i := 31) rfl)) rfl
set_option maxRecDepth 100000 in
theorem wg_49 : Cond.methodLink "java/util/AbstractCollection" 1 (⟨"java/lang/Object", "<init>", "()V"⟩ : MethodName) ∈ lw_g := lg_in (List.mem_append_right _ (List.mem_of_getElem? (i := 49) rfl)) rfl
set_option maxRecDepth 100000 in
theorem wg_70 : Cond.methodLink "Loomkeeper$Line" 3 (⟨"java/lang/Object", "<init>", "()V"⟩ : MethodName) ∈ lw_g := lg_in (List.mem_append_right _ (List.mem_of_getElem? (i := 70) rfl)) rfl
set_option maxRecDepth 100000 in
theorem wg_86 : Cond.methodLink "Loomkeeper$Program" 3 (⟨"java/lang/Object", "<init>", "()V"⟩ : MethodName) ∈ lw_g := lg_in (List.mem_append_right _ (List.mem_of_getElem? (i := 86) rfl)) rfl
set_option maxRecDepth 100000 in
theorem wg_106 : Cond.methodLink "Loomkeeper$History" 3 (⟨"java/lang/Object", "<init>", "()V"⟩ : MethodName) ∈ lw_g := lg_in (List.mem_append_right _ (List.mem_of_getElem? (i := 106) rfl)) rfl
set_option maxRecDepth 100000 in
theorem wg_125 : Cond.methodLink "Loomkeeper$Run" 3 (⟨"java/lang/Object", "<init>", "()V"⟩ : MethodName) ∈ lw_g := lg_in (List.mem_append_right _ (List.mem_of_getElem? (i := 125) rfl)) rfl
set_option maxRecDepth 100000 in
theorem wg_131 : Cond.methodLink "Loomkeeper$Pile" 3 (⟨"java/lang/Object", "<init>", "()V"⟩ : MethodName) ∈ lw_g := lg_in (List.mem_append_right _ (List.mem_of_getElem? (i := 131) rfl)) rfl
set_option maxRecDepth 100000 in
theorem wg_145 : Cond.methodLink "Loomkeeper$Signals" 3 (⟨"java/lang/Object", "<init>", "()V"⟩ : MethodName) ∈ lw_g := lg_in (List.mem_append_right _ (List.mem_of_getElem? (i := 145) rfl)) rfl
set_option maxRecDepth 100000 in
theorem wg_235 : Cond.methodLink "Loomkeeper$Flow" 3 (⟨"java/lang/Object", "<init>", "()V"⟩ : MethodName) ∈ lw_g := lg_in (List.mem_append_right _ (List.mem_of_getElem? (i := 235) rfl)) rfl
set_option maxRecDepth 100000 in
theorem wg_575 : Cond.methodLink "Loomkeeper$Task" 3 (⟨"java/lang/Object", "<init>", "()V"⟩ : MethodName) ∈ lw_g := lg_in (List.mem_append_right _ (List.mem_of_getElem? (i := 575) rfl)) rfl
set_option maxRecDepth 100000 in
theorem wg_746 : Cond.methodLink "java/lang/Throwable" 1 (⟨"java/lang/Object", "<init>", "()V"⟩ : MethodName) ∈ lw_g := lg_in (List.mem_append_right _ (List.mem_of_getElem? (i := 746) rfl)) rfl
set_option maxRecDepth 100000 in
theorem wg_1045 : Cond.methodLink "LoomkeeperModel" 1 (⟨"java/lang/Object", "<init>", "()V"⟩ : MethodName) ∈ lw_g := lg_in (List.mem_append_right _ (List.mem_of_getElem? (i := 1045) rfl)) rfl
set_option maxRecDepth 100000 in
theorem wg_32 : Cond.instanceMethod (⟨"java/lang/Object", "<init>", "()V"⟩ : MethodName) ∈ lw_g := lg_in (List.mem_append_right _ (List.mem_of_getElem? (i := 32) rfl)) rfl
set_option maxRecDepth 100000 in
theorem wg_33 : Cond.code (⟨"java/lang/Object", "<init>", "()V"⟩ : MethodName) object_method_1_code 1 (none : Option Jvm.ClassFile.FieldType) ∈ lw_g := lg_in (List.mem_append_right _ (List.mem_of_getElem? (i := 33) rfl)) rfl
