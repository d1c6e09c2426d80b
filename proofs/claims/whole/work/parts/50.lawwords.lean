/-! the law: words, decode rows -/
theorem zm_341 : (.methodLink RL 13 yX9_row : Cond) ∈ zc_T := zc_in 341 (by decide +kernel) (by decide +kernel)
theorem zm_342 : (.instanceMethod yX9_row : Cond) ∈ zc_T := zc_in 342 (by decide +kernel) (by decide +kernel)
theorem zm_343 : (.selects RX9 yX9_row yX9_row : Cond) ∈ zc_T := zc_in 343 (by decide +kernel) (by decide +kernel)
theorem zm_360 : (.methodLink RL 20 yX9_set : Cond) ∈ zc_T := zc_in 360 (by decide +kernel) (by decide +kernel)
theorem zm_361 : (.instanceMethod yX9_set : Cond) ∈ zc_T := zc_in 361 (by decide +kernel) (by decide +kernel)
theorem zm_362 : (.selects RX9 yX9_set yX9_set : Cond) ∈ zc_T := zc_in 362 (by decide +kernel) (by decide +kernel)
theorem zm_389 : (.methodLink RL 25 yX9_copy : Cond) ∈ zc_T := zc_in 389 (by decide +kernel) (by decide +kernel)
theorem zm_390 : (.instanceMethod yX9_copy : Cond) ∈ zc_T := zc_in 390 (by decide +kernel) (by decide +kernel)
theorem zm_391 : (.selects RX9 yX9_copy yX9_copy : Cond) ∈ zc_T := zc_in 391 (by decide +kernel) (by decide +kernel)
theorem zm_408 : (.methodLink RL 30 yX9_element : Cond) ∈ zc_T := zc_in 408 (by decide +kernel) (by decide +kernel)
theorem zm_409 : (.instanceMethod yX9_element : Cond) ∈ zc_T := zc_in 409 (by decide +kernel) (by decide +kernel)
theorem zm_410 : (.selects RX9 yX9_element yX9_element : Cond) ∈ zc_T := zc_in 410 (by decide +kernel) (by decide +kernel)
theorem zm_416 : (.methodLink RL 35 yX9_show : Cond) ∈ zc_T := zc_in 416 (by decide +kernel) (by decide +kernel)
theorem zm_417 : (.instanceMethod yX9_show : Cond) ∈ zc_T := zc_in 417 (by decide +kernel) (by decide +kernel)
theorem zm_418 : (.selects RX9 yX9_show yX9_show : Cond) ∈ zc_T := zc_in 418 (by decide +kernel) (by decide +kernel)
theorem zm_447 : (.methodLink RL 40 yX9_holds : Cond) ∈ zc_T := zc_in 447 (by decide +kernel) (by decide +kernel)
theorem zm_448 : (.instanceMethod yX9_holds : Cond) ∈ zc_T := zc_in 448 (by decide +kernel) (by decide +kernel)
theorem zm_449 : (.selects RX9 yX9_holds yX9_holds : Cond) ∈ zc_T := zc_in 449 (by decide +kernel) (by decide +kernel)
theorem zm_451 : (.methodLink RL 45 yX9_says : Cond) ∈ zc_T := zc_in 451 (by decide +kernel) (by decide +kernel)
theorem zm_452 : (.instanceMethod yX9_says : Cond) ∈ zc_T := zc_in 452 (by decide +kernel) (by decide +kernel)
theorem zm_453 : (.selects RX9 yX9_says yX9_says : Cond) ∈ zc_T := zc_in 453 (by decide +kernel) (by decide +kernel)
theorem zm_478 : (.methodLink RL 49 yX9_revise : Cond) ∈ zc_T := zc_in 478 (by decide +kernel) (by decide +kernel)
theorem zm_479 : (.instanceMethod yX9_revise : Cond) ∈ zc_T := zc_in 479 (by decide +kernel) (by decide +kernel)
theorem zm_480 : (.selects RX9 yX9_revise yX9_revise : Cond) ∈ zc_T := zc_in 480 (by decide +kernel) (by decide +kernel)
theorem zm_654 : (.methodLink RL 53 yX9_fault : Cond) ∈ zc_T := zc_in 654 (by decide +kernel) (by decide +kernel)
theorem zm_655 : (.instanceMethod yX9_fault : Cond) ∈ zc_T := zc_in 655 (by decide +kernel) (by decide +kernel)
theorem zm_656 : (.selects RX9 yX9_fault yX9_fault : Cond) ∈ zc_T := zc_in 656 (by decide +kernel) (by decide +kernel)
theorem zm_658 : (.methodLink RL 58 yX9_lines : Cond) ∈ zc_T := zc_in 658 (by decide +kernel) (by decide +kernel)
theorem zm_659 : (.instanceMethod yX9_lines : Cond) ∈ zc_T := zc_in 659 (by decide +kernel) (by decide +kernel)
theorem zm_660 : (.selects RX9 yX9_lines yX9_lines : Cond) ∈ zc_T := zc_in 660 (by decide +kernel) (by decide +kernel)
theorem zm_663 : (.methodLink RL 62 yX9_letter : Cond) ∈ zc_T := zc_in 663 (by decide +kernel) (by decide +kernel)
theorem zm_664 : (.instanceMethod yX9_letter : Cond) ∈ zc_T := zc_in 664 (by decide +kernel) (by decide +kernel)
theorem zm_665 : (.selects RX9 yX9_letter yX9_letter : Cond) ∈ zc_T := zc_in 665 (by decide +kernel) (by decide +kernel)
theorem zm_675 : (.methodLink RL 66 yX9_former : Cond) ∈ zc_T := zc_in 675 (by decide +kernel) (by decide +kernel)
theorem zm_676 : (.instanceMethod yX9_former : Cond) ∈ zc_T := zc_in 676 (by decide +kernel) (by decide +kernel)
theorem zm_677 : (.selects RX9 yX9_former yX9_former : Cond) ∈ zc_T := zc_in 677 (by decide +kernel) (by decide +kernel)
theorem zm_679 : (.methodLink RL 70 yX9_rule : Cond) ∈ zc_T := zc_in 679 (by decide +kernel) (by decide +kernel)
theorem zm_680 : (.instanceMethod yX9_rule : Cond) ∈ zc_T := zc_in 680 (by decide +kernel) (by decide +kernel)
theorem zm_681 : (.selects RX9 yX9_rule yX9_rule : Cond) ∈ zc_T := zc_in 681 (by decide +kernel) (by decide +kernel)
theorem zm_700 : (.methodLink RL 74 yX9_place : Cond) ∈ zc_T := zc_in 700 (by decide +kernel) (by decide +kernel)
theorem zm_701 : (.instanceMethod yX9_place : Cond) ∈ zc_T := zc_in 701 (by decide +kernel) (by decide +kernel)
theorem zm_702 : (.selects RX9 yX9_place yX9_place : Cond) ∈ zc_T := zc_in 702 (by decide +kernel) (by decide +kernel)
theorem zm_706 : (.methodLink RL 78 yX9_matched : Cond) ∈ zc_T := zc_in 706 (by decide +kernel) (by decide +kernel)
theorem zm_707 : (.instanceMethod yX9_matched : Cond) ∈ zc_T := zc_in 707 (by decide +kernel) (by decide +kernel)
theorem zm_708 : (.selects RX9 yX9_matched yX9_matched : Cond) ∈ zc_T := zc_in 708 (by decide +kernel) (by decide +kernel)
theorem zm_710 : (.methodLink RL 82 yX9_through : Cond) ∈ zc_T := zc_in 710 (by decide +kernel) (by decide +kernel)
theorem zm_711 : (.instanceMethod yX9_through : Cond) ∈ zc_T := zc_in 711 (by decide +kernel) (by decide +kernel)
theorem zm_712 : (.selects RX9 yX9_through yX9_through : Cond) ∈ zc_T := zc_in 712 (by decide +kernel) (by decide +kernel)
theorem zm_734 : (.methodLink RL 86 yX9_origin : Cond) ∈ zc_T := zc_in 734 (by decide +kernel) (by decide +kernel)
theorem zm_735 : (.instanceMethod yX9_origin : Cond) ∈ zc_T := zc_in 735 (by decide +kernel) (by decide +kernel)
theorem zm_736 : (.selects RX9 yX9_origin yX9_origin : Cond) ∈ zc_T := zc_in 736 (by decide +kernel) (by decide +kernel)
theorem zm_742 : (.methodLink RL 90 yX9_remark : Cond) ∈ zc_T := zc_in 742 (by decide +kernel) (by decide +kernel)
theorem zm_743 : (.instanceMethod yX9_remark : Cond) ∈ zc_T := zc_in 743 (by decide +kernel) (by decide +kernel)
theorem zm_744 : (.selects RX9 yX9_remark yX9_remark : Cond) ∈ zc_T := zc_in 744 (by decide +kernel) (by decide +kernel)
theorem zm_788 : (.methodLink RL 95 yX9_remarkOf : Cond) ∈ zc_T := zc_in 788 (by decide +kernel) (by decide +kernel)
theorem zm_789 : (.instanceMethod yX9_remarkOf : Cond) ∈ zc_T := zc_in 789 (by decide +kernel) (by decide +kernel)
theorem zm_790 : (.selects RX9 yX9_remarkOf yX9_remarkOf : Cond) ∈ zc_T := zc_in 790 (by decide +kernel) (by decide +kernel)
theorem zm_816 : (.methodLink RL 99 yX9_settle : Cond) ∈ zc_T := zc_in 816 (by decide +kernel) (by decide +kernel)
theorem zm_817 : (.instanceMethod yX9_settle : Cond) ∈ zc_T := zc_in 817 (by decide +kernel) (by decide +kernel)
theorem zm_818 : (.selects RX9 yX9_settle yX9_settle : Cond) ∈ zc_T := zc_in 818 (by decide +kernel) (by decide +kernel)
theorem zm_820 : (.methodLink RL 104 yX9_put : Cond) ∈ zc_T := zc_in 820 (by decide +kernel) (by decide +kernel)
theorem zm_821 : (.instanceMethod yX9_put : Cond) ∈ zc_T := zc_in 821 (by decide +kernel) (by decide +kernel)
theorem zm_822 : (.selects RX9 yX9_put yX9_put : Cond) ∈ zc_T := zc_in 822 (by decide +kernel) (by decide +kernel)
theorem zm_888 : (.methodLink RL 108 yX9_score : Cond) ∈ zc_T := zc_in 888 (by decide +kernel) (by decide +kernel)
theorem zm_889 : (.instanceMethod yX9_score : Cond) ∈ zc_T := zc_in 889 (by decide +kernel) (by decide +kernel)
theorem zm_890 : (.selects RX9 yX9_score yX9_score : Cond) ∈ zc_T := zc_in 890 (by decide +kernel) (by decide +kernel)
theorem zm_897 : (.methodLink RL 112 yX9_leastNeed : Cond) ∈ zc_T := zc_in 897 (by decide +kernel) (by decide +kernel)
theorem zm_898 : (.instanceMethod yX9_leastNeed : Cond) ∈ zc_T := zc_in 898 (by decide +kernel) (by decide +kernel)
theorem zm_899 : (.selects RX9 yX9_leastNeed yX9_leastNeed : Cond) ∈ zc_T := zc_in 899 (by decide +kernel) (by decide +kernel)
theorem zm_903 : (.methodLink RL 116 yX9_fitting : Cond) ∈ zc_T := zc_in 903 (by decide +kernel) (by decide +kernel)
theorem zm_904 : (.instanceMethod yX9_fitting : Cond) ∈ zc_T := zc_in 904 (by decide +kernel) (by decide +kernel)
theorem zm_905 : (.selects RX9 yX9_fitting yX9_fitting : Cond) ∈ zc_T := zc_in 905 (by decide +kernel) (by decide +kernel)
theorem zm_911 : (.methodLink RL 120 yX9_inOrder : Cond) ∈ zc_T := zc_in 911 (by decide +kernel) (by decide +kernel)
theorem zm_912 : (.instanceMethod yX9_inOrder : Cond) ∈ zc_T := zc_in 912 (by decide +kernel) (by decide +kernel)
theorem zm_913 : (.selects RX9 yX9_inOrder yX9_inOrder : Cond) ∈ zc_T := zc_in 913 (by decide +kernel) (by decide +kernel)
theorem zm_933 : (.methodLink RL 124 yX9_who : Cond) ∈ zc_T := zc_in 933 (by decide +kernel) (by decide +kernel)
theorem zm_934 : (.instanceMethod yX9_who : Cond) ∈ zc_T := zc_in 934 (by decide +kernel) (by decide +kernel)
theorem zm_935 : (.selects RX9 yX9_who yX9_who : Cond) ∈ zc_T := zc_in 935 (by decide +kernel) (by decide +kernel)
theorem zm_946 : (.methodLink RL 128 yX9_covered : Cond) ∈ zc_T := zc_in 946 (by decide +kernel) (by decide +kernel)
theorem zm_947 : (.instanceMethod yX9_covered : Cond) ∈ zc_T := zc_in 947 (by decide +kernel) (by decide +kernel)
theorem zm_948 : (.selects RX9 yX9_covered yX9_covered : Cond) ∈ zc_T := zc_in 948 (by decide +kernel) (by decide +kernel)
theorem zm_954 : (.methodLink RL 132 yX9_judge : Cond) ∈ zc_T := zc_in 954 (by decide +kernel) (by decide +kernel)
theorem zm_955 : (.instanceMethod yX9_judge : Cond) ∈ zc_T := zc_in 955 (by decide +kernel) (by decide +kernel)
theorem zm_956 : (.selects RX9 yX9_judge yX9_judge : Cond) ∈ zc_T := zc_in 956 (by decide +kernel) (by decide +kernel)
theorem zm_967 : (.methodLink RL 136 yX9_again : Cond) ∈ zc_T := zc_in 967 (by decide +kernel) (by decide +kernel)
theorem zm_968 : (.instanceMethod yX9_again : Cond) ∈ zc_T := zc_in 968 (by decide +kernel) (by decide +kernel)
theorem zm_969 : (.selects RX9 yX9_again yX9_again : Cond) ∈ zc_T := zc_in 969 (by decide +kernel) (by decide +kernel)
theorem zm_988 : (.methodLink RL 140 yX9_drift : Cond) ∈ zc_T := zc_in 988 (by decide +kernel) (by decide +kernel)
theorem zm_989 : (.instanceMethod yX9_drift : Cond) ∈ zc_T := zc_in 989 (by decide +kernel) (by decide +kernel)
theorem zm_990 : (.selects RX9 yX9_drift yX9_drift : Cond) ∈ zc_T := zc_in 990 (by decide +kernel) (by decide +kernel)
theorem zm_1007 : (.methodLink RL 144 yX9_seed : Cond) ∈ zc_T := zc_in 1007 (by decide +kernel) (by decide +kernel)
theorem zm_1008 : (.instanceMethod yX9_seed : Cond) ∈ zc_T := zc_in 1008 (by decide +kernel) (by decide +kernel)
theorem zm_1009 : (.selects RX9 yX9_seed yX9_seed : Cond) ∈ zc_T := zc_in 1009 (by decide +kernel) (by decide +kernel)
theorem zm_1011 : (.methodLink RL 148 yX9_act : Cond) ∈ zc_T := zc_in 1011 (by decide +kernel) (by decide +kernel)
theorem zm_1012 : (.instanceMethod yX9_act : Cond) ∈ zc_T := zc_in 1012 (by decide +kernel) (by decide +kernel)
theorem zm_1013 : (.selects RX9 yX9_act yX9_act : Cond) ∈ zc_T := zc_in 1013 (by decide +kernel) (by decide +kernel)
theorem zm_1045 : (.methodLink RL 152 yX9_trace : Cond) ∈ zc_T := zc_in 1045 (by decide +kernel) (by decide +kernel)
theorem zm_1046 : (.instanceMethod yX9_trace : Cond) ∈ zc_T := zc_in 1046 (by decide +kernel) (by decide +kernel)
theorem zm_1047 : (.selects RX9 yX9_trace yX9_trace : Cond) ∈ zc_T := zc_in 1047 (by decide +kernel) (by decide +kernel)
theorem zm_1053 : (.methodLink RL 156 yX9_image : Cond) ∈ zc_T := zc_in 1053 (by decide +kernel) (by decide +kernel)
theorem zm_1054 : (.instanceMethod yX9_image : Cond) ∈ zc_T := zc_in 1054 (by decide +kernel) (by decide +kernel)
theorem zm_1055 : (.selects RX9 yX9_image yX9_image : Cond) ∈ zc_T := zc_in 1055 (by decide +kernel) (by decide +kernel)
theorem zm_1063 : (.methodLink RL 160 yX9_restore : Cond) ∈ zc_T := zc_in 1063 (by decide +kernel) (by decide +kernel)
theorem zm_1064 : (.instanceMethod yX9_restore : Cond) ∈ zc_T := zc_in 1064 (by decide +kernel) (by decide +kernel)
theorem zm_1065 : (.selects RX9 yX9_restore yX9_restore : Cond) ∈ zc_T := zc_in 1065 (by decide +kernel) (by decide +kernel)
theorem zm_1067 : (.methodLink RL 164 yX9_status : Cond) ∈ zc_T := zc_in 1067 (by decide +kernel) (by decide +kernel)
theorem zm_1068 : (.instanceMethod yX9_status : Cond) ∈ zc_T := zc_in 1068 (by decide +kernel) (by decide +kernel)
theorem zm_1069 : (.selects RX9 yX9_status yX9_status : Cond) ∈ zc_T := zc_in 1069 (by decide +kernel) (by decide +kernel)
theorem zm_1212 : (.methodLink RL 17 yX10_row : Cond) ∈ zc_T := zc_in 1212 (by decide +kernel) (by decide +kernel)
theorem zm_1213 : (.instanceMethod yX10_row : Cond) ∈ zc_T := zc_in 1213 (by decide +kernel) (by decide +kernel)
theorem zm_1214 : (.selects RX10 yX10_row yX10_row : Cond) ∈ zc_T := zc_in 1214 (by decide +kernel) (by decide +kernel)
theorem zm_1223 : (.methodLink RL 24 yX10_set : Cond) ∈ zc_T := zc_in 1223 (by decide +kernel) (by decide +kernel)
theorem zm_1224 : (.instanceMethod yX10_set : Cond) ∈ zc_T := zc_in 1224 (by decide +kernel) (by decide +kernel)
theorem zm_1225 : (.selects RX10 yX10_set yX10_set : Cond) ∈ zc_T := zc_in 1225 (by decide +kernel) (by decide +kernel)
theorem zm_1235 : (.methodLink RL 29 yX10_copy : Cond) ∈ zc_T := zc_in 1235 (by decide +kernel) (by decide +kernel)
theorem zm_1236 : (.instanceMethod yX10_copy : Cond) ∈ zc_T := zc_in 1236 (by decide +kernel) (by decide +kernel)
theorem zm_1237 : (.selects RX10 yX10_copy yX10_copy : Cond) ∈ zc_T := zc_in 1237 (by decide +kernel) (by decide +kernel)
theorem zm_1239 : (.methodLink RL 34 yX10_element : Cond) ∈ zc_T := zc_in 1239 (by decide +kernel) (by decide +kernel)
theorem zm_1240 : (.instanceMethod yX10_element : Cond) ∈ zc_T := zc_in 1240 (by decide +kernel) (by decide +kernel)
theorem zm_1241 : (.selects RX10 yX10_element yX10_element : Cond) ∈ zc_T := zc_in 1241 (by decide +kernel) (by decide +kernel)
theorem zm_1243 : (.methodLink RL 39 yX10_show : Cond) ∈ zc_T := zc_in 1243 (by decide +kernel) (by decide +kernel)
theorem zm_1244 : (.instanceMethod yX10_show : Cond) ∈ zc_T := zc_in 1244 (by decide +kernel) (by decide +kernel)
theorem zm_1245 : (.selects RX10 yX10_show yX10_show : Cond) ∈ zc_T := zc_in 1245 (by decide +kernel) (by decide +kernel)
theorem zm_1251 : (.methodLink RL 44 yX10_holds : Cond) ∈ zc_T := zc_in 1251 (by decide +kernel) (by decide +kernel)
theorem zm_1252 : (.instanceMethod yX10_holds : Cond) ∈ zc_T := zc_in 1252 (by decide +kernel) (by decide +kernel)
theorem zm_1253 : (.selects RX10 yX10_holds yX10_holds : Cond) ∈ zc_T := zc_in 1253 (by decide +kernel) (by decide +kernel)
theorem zm_1255 : (.methodLink RL 48 yX10_says : Cond) ∈ zc_T := zc_in 1255 (by decide +kernel) (by decide +kernel)
theorem zm_1256 : (.instanceMethod yX10_says : Cond) ∈ zc_T := zc_in 1256 (by decide +kernel) (by decide +kernel)
theorem zm_1257 : (.selects RX10 yX10_says yX10_says : Cond) ∈ zc_T := zc_in 1257 (by decide +kernel) (by decide +kernel)
theorem zm_1269 : (.methodLink RL 52 yX10_revise : Cond) ∈ zc_T := zc_in 1269 (by decide +kernel) (by decide +kernel)
theorem zm_1270 : (.instanceMethod yX10_revise : Cond) ∈ zc_T := zc_in 1270 (by decide +kernel) (by decide +kernel)
theorem zm_1271 : (.selects RX10 yX10_revise yX10_revise : Cond) ∈ zc_T := zc_in 1271 (by decide +kernel) (by decide +kernel)
theorem zm_1314 : (.methodLink RL 57 yX10_fault : Cond) ∈ zc_T := zc_in 1314 (by decide +kernel) (by decide +kernel)
theorem zm_1315 : (.instanceMethod yX10_fault : Cond) ∈ zc_T := zc_in 1315 (by decide +kernel) (by decide +kernel)
theorem zm_1316 : (.selects RX10 yX10_fault yX10_fault : Cond) ∈ zc_T := zc_in 1316 (by decide +kernel) (by decide +kernel)
theorem zm_1318 : (.methodLink RL 61 yX10_lines : Cond) ∈ zc_T := zc_in 1318 (by decide +kernel) (by decide +kernel)
theorem zm_1319 : (.instanceMethod yX10_lines : Cond) ∈ zc_T := zc_in 1319 (by decide +kernel) (by decide +kernel)
theorem zm_1320 : (.selects RX10 yX10_lines yX10_lines : Cond) ∈ zc_T := zc_in 1320 (by decide +kernel) (by decide +kernel)
theorem zm_1322 : (.methodLink RL 65 yX10_letter : Cond) ∈ zc_T := zc_in 1322 (by decide +kernel) (by decide +kernel)
theorem zm_1323 : (.instanceMethod yX10_letter : Cond) ∈ zc_T := zc_in 1323 (by decide +kernel) (by decide +kernel)
theorem zm_1324 : (.selects RX10 yX10_letter yX10_letter : Cond) ∈ zc_T := zc_in 1324 (by decide +kernel) (by decide +kernel)
theorem zm_1331 : (.methodLink RL 69 yX10_former : Cond) ∈ zc_T := zc_in 1331 (by decide +kernel) (by decide +kernel)
theorem zm_1332 : (.instanceMethod yX10_former : Cond) ∈ zc_T := zc_in 1332 (by decide +kernel) (by decide +kernel)
theorem zm_1333 : (.selects RX10 yX10_former yX10_former : Cond) ∈ zc_T := zc_in 1333 (by decide +kernel) (by decide +kernel)
theorem zm_1339 : (.methodLink RL 73 yX10_rule : Cond) ∈ zc_T := zc_in 1339 (by decide +kernel) (by decide +kernel)
theorem zm_1340 : (.instanceMethod yX10_rule : Cond) ∈ zc_T := zc_in 1340 (by decide +kernel) (by decide +kernel)
theorem zm_1341 : (.selects RX10 yX10_rule yX10_rule : Cond) ∈ zc_T := zc_in 1341 (by decide +kernel) (by decide +kernel)
theorem zm_1343 : (.methodLink RL 77 yX10_place : Cond) ∈ zc_T := zc_in 1343 (by decide +kernel) (by decide +kernel)
theorem zm_1344 : (.instanceMethod yX10_place : Cond) ∈ zc_T := zc_in 1344 (by decide +kernel) (by decide +kernel)
theorem zm_1345 : (.selects RX10 yX10_place yX10_place : Cond) ∈ zc_T := zc_in 1345 (by decide +kernel) (by decide +kernel)
theorem zm_1347 : (.methodLink RL 81 yX10_matched : Cond) ∈ zc_T := zc_in 1347 (by decide +kernel) (by decide +kernel)
theorem zm_1348 : (.instanceMethod yX10_matched : Cond) ∈ zc_T := zc_in 1348 (by decide +kernel) (by decide +kernel)
theorem zm_1349 : (.selects RX10 yX10_matched yX10_matched : Cond) ∈ zc_T := zc_in 1349 (by decide +kernel) (by decide +kernel)
theorem zm_1351 : (.methodLink RL 85 yX10_through : Cond) ∈ zc_T := zc_in 1351 (by decide +kernel) (by decide +kernel)
theorem zm_1352 : (.instanceMethod yX10_through : Cond) ∈ zc_T := zc_in 1352 (by decide +kernel) (by decide +kernel)
theorem zm_1353 : (.selects RX10 yX10_through yX10_through : Cond) ∈ zc_T := zc_in 1353 (by decide +kernel) (by decide +kernel)
theorem zm_1359 : (.methodLink RL 89 yX10_origin : Cond) ∈ zc_T := zc_in 1359 (by decide +kernel) (by decide +kernel)
theorem zm_1360 : (.instanceMethod yX10_origin : Cond) ∈ zc_T := zc_in 1360 (by decide +kernel) (by decide +kernel)
theorem zm_1361 : (.selects RX10 yX10_origin yX10_origin : Cond) ∈ zc_T := zc_in 1361 (by decide +kernel) (by decide +kernel)
theorem zm_1367 : (.methodLink RL 94 yX10_remark : Cond) ∈ zc_T := zc_in 1367 (by decide +kernel) (by decide +kernel)
theorem zm_1368 : (.instanceMethod yX10_remark : Cond) ∈ zc_T := zc_in 1368 (by decide +kernel) (by decide +kernel)
theorem zm_1369 : (.selects RX10 yX10_remark yX10_remark : Cond) ∈ zc_T := zc_in 1369 (by decide +kernel) (by decide +kernel)
theorem zm_1375 : (.methodLink RL 98 yX10_remarkOf : Cond) ∈ zc_T := zc_in 1375 (by decide +kernel) (by decide +kernel)
theorem zm_1376 : (.instanceMethod yX10_remarkOf : Cond) ∈ zc_T := zc_in 1376 (by decide +kernel) (by decide +kernel)
theorem zm_1377 : (.selects RX10 yX10_remarkOf yX10_remarkOf : Cond) ∈ zc_T := zc_in 1377 (by decide +kernel) (by decide +kernel)
theorem zm_1395 : (.methodLink RL 103 yX10_settle : Cond) ∈ zc_T := zc_in 1395 (by decide +kernel) (by decide +kernel)
theorem zm_1396 : (.instanceMethod yX10_settle : Cond) ∈ zc_T := zc_in 1396 (by decide +kernel) (by decide +kernel)
theorem zm_1397 : (.selects RX10 yX10_settle yX10_settle : Cond) ∈ zc_T := zc_in 1397 (by decide +kernel) (by decide +kernel)
theorem zm_1399 : (.methodLink RL 107 yX10_put : Cond) ∈ zc_T := zc_in 1399 (by decide +kernel) (by decide +kernel)
theorem zm_1400 : (.instanceMethod yX10_put : Cond) ∈ zc_T := zc_in 1400 (by decide +kernel) (by decide +kernel)
theorem zm_1401 : (.selects RX10 yX10_put yX10_put : Cond) ∈ zc_T := zc_in 1401 (by decide +kernel) (by decide +kernel)
theorem zm_1436 : (.methodLink RL 111 yX10_score_ : Cond) ∈ zc_T := zc_in 1436 (by decide +kernel) (by decide +kernel)
theorem zm_1437 : (.instanceMethod yX10_score_ : Cond) ∈ zc_T := zc_in 1437 (by decide +kernel) (by decide +kernel)
theorem zm_1438 : (.selects RX10 yX10_score_ yX10_score_ : Cond) ∈ zc_T := zc_in 1438 (by decide +kernel) (by decide +kernel)
theorem zm_1440 : (.methodLink RL 115 yX10_leastNeed : Cond) ∈ zc_T := zc_in 1440 (by decide +kernel) (by decide +kernel)
theorem zm_1441 : (.instanceMethod yX10_leastNeed : Cond) ∈ zc_T := zc_in 1441 (by decide +kernel) (by decide +kernel)
theorem zm_1442 : (.selects RX10 yX10_leastNeed yX10_leastNeed : Cond) ∈ zc_T := zc_in 1442 (by decide +kernel) (by decide +kernel)
theorem zm_1444 : (.methodLink RL 119 yX10_fitting : Cond) ∈ zc_T := zc_in 1444 (by decide +kernel) (by decide +kernel)
theorem zm_1445 : (.instanceMethod yX10_fitting : Cond) ∈ zc_T := zc_in 1445 (by decide +kernel) (by decide +kernel)
theorem zm_1446 : (.selects RX10 yX10_fitting yX10_fitting : Cond) ∈ zc_T := zc_in 1446 (by decide +kernel) (by decide +kernel)
theorem zm_1448 : (.methodLink RL 123 yX10_inOrder : Cond) ∈ zc_T := zc_in 1448 (by decide +kernel) (by decide +kernel)
theorem zm_1449 : (.instanceMethod yX10_inOrder : Cond) ∈ zc_T := zc_in 1449 (by decide +kernel) (by decide +kernel)
theorem zm_1450 : (.selects RX10 yX10_inOrder yX10_inOrder : Cond) ∈ zc_T := zc_in 1450 (by decide +kernel) (by decide +kernel)
theorem zm_1456 : (.methodLink RL 127 yX10_who : Cond) ∈ zc_T := zc_in 1456 (by decide +kernel) (by decide +kernel)
theorem zm_1457 : (.instanceMethod yX10_who : Cond) ∈ zc_T := zc_in 1457 (by decide +kernel) (by decide +kernel)
theorem zm_1458 : (.selects RX10 yX10_who yX10_who : Cond) ∈ zc_T := zc_in 1458 (by decide +kernel) (by decide +kernel)
theorem zm_1464 : (.methodLink RL 131 yX10_covered : Cond) ∈ zc_T := zc_in 1464 (by decide +kernel) (by decide +kernel)
theorem zm_1465 : (.instanceMethod yX10_covered : Cond) ∈ zc_T := zc_in 1465 (by decide +kernel) (by decide +kernel)
theorem zm_1466 : (.selects RX10 yX10_covered yX10_covered : Cond) ∈ zc_T := zc_in 1466 (by decide +kernel) (by decide +kernel)
theorem zm_1468 : (.methodLink RL 135 yX10_judge : Cond) ∈ zc_T := zc_in 1468 (by decide +kernel) (by decide +kernel)
theorem zm_1469 : (.instanceMethod yX10_judge : Cond) ∈ zc_T := zc_in 1469 (by decide +kernel) (by decide +kernel)
theorem zm_1470 : (.selects RX10 yX10_judge yX10_judge : Cond) ∈ zc_T := zc_in 1470 (by decide +kernel) (by decide +kernel)
theorem zm_1472 : (.methodLink RL 139 yX10_again : Cond) ∈ zc_T := zc_in 1472 (by decide +kernel) (by decide +kernel)
theorem zm_1473 : (.instanceMethod yX10_again : Cond) ∈ zc_T := zc_in 1473 (by decide +kernel) (by decide +kernel)
theorem zm_1474 : (.selects RX10 yX10_again yX10_again : Cond) ∈ zc_T := zc_in 1474 (by decide +kernel) (by decide +kernel)
theorem zm_1480 : (.methodLink RL 143 yX10_drift : Cond) ∈ zc_T := zc_in 1480 (by decide +kernel) (by decide +kernel)
theorem zm_1481 : (.instanceMethod yX10_drift : Cond) ∈ zc_T := zc_in 1481 (by decide +kernel) (by decide +kernel)
theorem zm_1482 : (.selects RX10 yX10_drift yX10_drift : Cond) ∈ zc_T := zc_in 1482 (by decide +kernel) (by decide +kernel)
theorem zm_1494 : (.methodLink RL 147 yX10_seed : Cond) ∈ zc_T := zc_in 1494 (by decide +kernel) (by decide +kernel)
theorem zm_1495 : (.instanceMethod yX10_seed : Cond) ∈ zc_T := zc_in 1495 (by decide +kernel) (by decide +kernel)
theorem zm_1496 : (.selects RX10 yX10_seed yX10_seed : Cond) ∈ zc_T := zc_in 1496 (by decide +kernel) (by decide +kernel)
theorem zm_1498 : (.methodLink RL 151 yX10_act : Cond) ∈ zc_T := zc_in 1498 (by decide +kernel) (by decide +kernel)
theorem zm_1499 : (.instanceMethod yX10_act : Cond) ∈ zc_T := zc_in 1499 (by decide +kernel) (by decide +kernel)
theorem zm_1500 : (.selects RX10 yX10_act yX10_act : Cond) ∈ zc_T := zc_in 1500 (by decide +kernel) (by decide +kernel)
theorem zm_1518 : (.methodLink RL 155 yX10_trace : Cond) ∈ zc_T := zc_in 1518 (by decide +kernel) (by decide +kernel)
theorem zm_1519 : (.instanceMethod yX10_trace : Cond) ∈ zc_T := zc_in 1519 (by decide +kernel) (by decide +kernel)
theorem zm_1520 : (.selects RX10 yX10_trace yX10_trace : Cond) ∈ zc_T := zc_in 1520 (by decide +kernel) (by decide +kernel)
theorem zm_1522 : (.methodLink RL 159 yX10_image : Cond) ∈ zc_T := zc_in 1522 (by decide +kernel) (by decide +kernel)
theorem zm_1523 : (.instanceMethod yX10_image : Cond) ∈ zc_T := zc_in 1523 (by decide +kernel) (by decide +kernel)
theorem zm_1524 : (.selects RX10 yX10_image yX10_image : Cond) ∈ zc_T := zc_in 1524 (by decide +kernel) (by decide +kernel)
theorem zm_1526 : (.methodLink RL 163 yX10_restore : Cond) ∈ zc_T := zc_in 1526 (by decide +kernel) (by decide +kernel)
theorem zm_1527 : (.instanceMethod yX10_restore : Cond) ∈ zc_T := zc_in 1527 (by decide +kernel) (by decide +kernel)
theorem zm_1528 : (.selects RX10 yX10_restore yX10_restore : Cond) ∈ zc_T := zc_in 1528 (by decide +kernel) (by decide +kernel)
theorem zm_1530 : (.methodLink RL 167 yX10_status : Cond) ∈ zc_T := zc_in 1530 (by decide +kernel) (by decide +kernel)
theorem zm_1531 : (.instanceMethod yX10_status : Cond) ∈ zc_T := zc_in 1531 (by decide +kernel) (by decide +kernel)
theorem zm_1532 : (.selects RX10 yX10_status yX10_status : Cond) ∈ zc_T := zc_in 1532 (by decide +kernel) (by decide +kernel)
theorem zm_1542 : (.constantLong RL 18 4294967295 : Cond) ∈ zc_T := zc_in 1542 (by decide +kernel) (by decide +kernel)
theorem zd_L_law_0 : decode code 0 = .ok (.new 7, 3) := by decide +kernel
theorem zd_L_law_3 : decode code 3 = .ok (.dup, 1) := by decide +kernel
theorem zd_L_law_4 : decode code 4 = .ok (.invokespecial 9, 3) := by decide +kernel
theorem zd_L_law_7 : decode code 7 = .ok (.astore_n 1, 1) := by decide +kernel
theorem zd_L_law_8 : decode code 8 = .ok (.new 10, 3) := by decide +kernel
theorem zd_L_law_11 : decode code 11 = .ok (.dup, 1) := by decide +kernel
theorem zd_L_law_12 : decode code 12 = .ok (.invokespecial 12, 3) := by decide +kernel
theorem zd_L_law_15 : decode code 15 = .ok (.astore_n 2, 1) := by decide +kernel
theorem zd_L_law_16 : decode code 16 = .ok (.iconst 0, 1) := by decide +kernel
theorem zd_L_law_17 : decode code 17 = .ok (.istore_n 3, 1) := by decide +kernel
theorem zd_L_law_18 : decode code 18 = .ok (.iload_n 3, 1) := by decide +kernel
theorem zd_L_law_19 : decode code 19 = .ok (.aload_n 0, 1) := by decide +kernel
theorem zd_L_law_20 : decode code 20 = .ok (.arraylength, 1) := by decide +kernel
theorem zd_L_law_21 : decode code 21 = .ok (.bipush 7, 2) := by decide +kernel
theorem zd_L_law_23 : decode code 23 = .ok (.isub, 1) := by decide +kernel
theorem zd_L_law_24 : decode code 24 = .ok (.if_icmp .gt 1451, 3) := by decide +kernel
theorem zd_L_law_27 : decode code 27 = .ok (.aload_n 0, 1) := by decide +kernel
theorem zd_L_law_28 : decode code 28 = .ok (.iload_n 3, 1) := by decide +kernel
theorem zd_L_law_29 : decode code 29 = .ok (.iaload, 1) := by decide +kernel
theorem zd_L_law_30 : decode code 30 = .ok (.bipush 63, 2) := by decide +kernel
theorem zd_L_law_32 : decode code 32 = .ok (.iand, 1) := by decide +kernel
theorem zd_L_law_33 : decode code 33 = .ok (.tableswitch 1436 0 35 #[159, 202, 275, 338, 372, 405, 428, 461, 494, 507, 530, 573, 596, 629, 672, 715, 758, 801, 876, 909, 958, 1001, 1044, 1077, 1110, 1143, 1176, 1199, 1242, 1275, 1298, 1321, 1364, 1387, 1400, 1413], 159) := by decide +kernel
theorem zd_L_law_192 : decode code 192 = .ok (.aload_n 1, 1) := by decide +kernel
theorem zd_L_law_193 : decode code 193 = .ok (.aload_n 0, 1) := by decide +kernel
theorem zd_L_law_194 : decode code 194 = .ok (.iload_n 3, 1) := by decide +kernel
theorem zd_L_law_195 : decode code 195 = .ok (.iconst 1, 1) := by decide +kernel
theorem zd_L_law_196 : decode code 196 = .ok (.iadd, 1) := by decide +kernel
theorem zd_L_law_197 : decode code 197 = .ok (.iaload, 1) := by decide +kernel
theorem zd_L_law_198 : decode code 198 = .ok (.aload_n 0, 1) := by decide +kernel
theorem zd_L_law_199 : decode code 199 = .ok (.iload_n 3, 1) := by decide +kernel
theorem zd_L_law_200 : decode code 200 = .ok (.iconst 2, 1) := by decide +kernel
theorem zd_L_law_201 : decode code 201 = .ok (.iadd, 1) := by decide +kernel
theorem zd_L_law_202 : decode code 202 = .ok (.iaload, 1) := by decide +kernel
theorem zd_L_law_203 : decode code 203 = .ok (.aload_n 0, 1) := by decide +kernel
theorem zd_L_law_204 : decode code 204 = .ok (.iload_n 3, 1) := by decide +kernel
theorem zd_L_law_205 : decode code 205 = .ok (.iconst 3, 1) := by decide +kernel
theorem zd_L_law_206 : decode code 206 = .ok (.iadd, 1) := by decide +kernel
theorem zd_L_law_207 : decode code 207 = .ok (.iaload, 1) := by decide +kernel
theorem zd_L_law_208 : decode code 208 = .ok (.invokevirtual 13, 3) := by decide +kernel
theorem zd_L_law_211 : decode code 211 = .ok (.aload_n 2, 1) := by decide +kernel
theorem zd_L_law_212 : decode code 212 = .ok (.aload_n 0, 1) := by decide +kernel
theorem zd_L_law_213 : decode code 213 = .ok (.iload_n 3, 1) := by decide +kernel
theorem zd_L_law_214 : decode code 214 = .ok (.iconst 1, 1) := by decide +kernel
theorem zd_L_law_215 : decode code 215 = .ok (.iadd, 1) := by decide +kernel
theorem zd_L_law_216 : decode code 216 = .ok (.iaload, 1) := by decide +kernel
theorem zd_L_law_217 : decode code 217 = .ok (.aload_n 0, 1) := by decide +kernel
theorem zd_L_law_218 : decode code 218 = .ok (.iload_n 3, 1) := by decide +kernel
theorem zd_L_law_219 : decode code 219 = .ok (.iconst 2, 1) := by decide +kernel
theorem zd_L_law_220 : decode code 220 = .ok (.iadd, 1) := by decide +kernel
theorem zd_L_law_221 : decode code 221 = .ok (.iaload, 1) := by decide +kernel
theorem zd_L_law_222 : decode code 222 = .ok (.aload_n 0, 1) := by decide +kernel
theorem zd_L_law_223 : decode code 223 = .ok (.iload_n 3, 1) := by decide +kernel
theorem zd_L_law_224 : decode code 224 = .ok (.iconst 3, 1) := by decide +kernel
theorem zd_L_law_225 : decode code 225 = .ok (.iadd, 1) := by decide +kernel
theorem zd_L_law_226 : decode code 226 = .ok (.iaload, 1) := by decide +kernel
theorem zd_L_law_227 : decode code 227 = .ok (.invokevirtual 17, 3) := by decide +kernel
theorem zd_L_law_230 : decode code 230 = .ok (.if_icmp .eq 1239, 3) := by decide +kernel
theorem zd_L_law_233 : decode code 233 = .ok (.iconst 0, 1) := by decide +kernel
theorem zd_L_law_235 : decode code 235 = .ok (.aload_n 1, 1) := by decide +kernel
theorem zd_L_law_236 : decode code 236 = .ok (.aload_n 0, 1) := by decide +kernel
theorem zd_L_law_237 : decode code 237 = .ok (.iload_n 3, 1) := by decide +kernel
theorem zd_L_law_238 : decode code 238 = .ok (.iconst 1, 1) := by decide +kernel
theorem zd_L_law_239 : decode code 239 = .ok (.iadd, 1) := by decide +kernel
theorem zd_L_law_240 : decode code 240 = .ok (.iaload, 1) := by decide +kernel
theorem zd_L_law_241 : decode code 241 = .ok (.aload_n 0, 1) := by decide +kernel
theorem zd_L_law_242 : decode code 242 = .ok (.iload_n 3, 1) := by decide +kernel
theorem zd_L_law_243 : decode code 243 = .ok (.iconst 2, 1) := by decide +kernel
theorem zd_L_law_244 : decode code 244 = .ok (.iadd, 1) := by decide +kernel
theorem zd_L_law_245 : decode code 245 = .ok (.iaload, 1) := by decide +kernel
theorem zd_L_law_246 : decode code 246 = .ok (.aload_n 0, 1) := by decide +kernel
theorem zd_L_law_247 : decode code 247 = .ok (.iload_n 3, 1) := by decide +kernel
theorem zd_L_law_248 : decode code 248 = .ok (.iconst 3, 1) := by decide +kernel
theorem zd_L_law_249 : decode code 249 = .ok (.iadd, 1) := by decide +kernel
theorem zd_L_law_250 : decode code 250 = .ok (.iaload, 1) := by decide +kernel
theorem zd_L_law_251 : decode code 251 = .ok (.i2l, 1) := by decide +kernel
theorem zd_L_law_252 : decode code 252 = .ok (.bipush 32, 2) := by decide +kernel
theorem zd_L_law_254 : decode code 254 = .ok (.lshl, 1) := by decide +kernel
theorem zd_L_law_255 : decode code 255 = .ok (.aload_n 0, 1) := by decide +kernel
theorem zd_L_law_256 : decode code 256 = .ok (.iload_n 3, 1) := by decide +kernel
theorem zd_L_law_257 : decode code 257 = .ok (.iconst 4, 1) := by decide +kernel
theorem zd_L_law_258 : decode code 258 = .ok (.iadd, 1) := by decide +kernel
theorem zd_L_law_259 : decode code 259 = .ok (.iaload, 1) := by decide +kernel
theorem zd_L_law_260 : decode code 260 = .ok (.i2l, 1) := by decide +kernel
theorem zd_L_law_261 : decode code 261 = .ok (.ldc2_w 18, 3) := by decide +kernel
theorem zd_L_law_264 : decode code 264 = .ok (.land, 1) := by decide +kernel
theorem zd_L_law_265 : decode code 265 = .ok (.lor, 1) := by decide +kernel
theorem zd_L_law_266 : decode code 266 = .ok (.invokevirtual 20, 3) := by decide +kernel
theorem zd_L_law_269 : decode code 269 = .ok (.aload_n 2, 1) := by decide +kernel
theorem zd_L_law_270 : decode code 270 = .ok (.aload_n 0, 1) := by decide +kernel
theorem zd_L_law_271 : decode code 271 = .ok (.iload_n 3, 1) := by decide +kernel
theorem zd_L_law_272 : decode code 272 = .ok (.iconst 1, 1) := by decide +kernel
theorem zd_L_law_273 : decode code 273 = .ok (.iadd, 1) := by decide +kernel
theorem zd_L_law_274 : decode code 274 = .ok (.iaload, 1) := by decide +kernel
theorem zd_L_law_275 : decode code 275 = .ok (.aload_n 0, 1) := by decide +kernel
theorem zd_L_law_276 : decode code 276 = .ok (.iload_n 3, 1) := by decide +kernel
theorem zd_L_law_277 : decode code 277 = .ok (.iconst 2, 1) := by decide +kernel
theorem zd_L_law_278 : decode code 278 = .ok (.iadd, 1) := by decide +kernel
theorem zd_L_law_279 : decode code 279 = .ok (.iaload, 1) := by decide +kernel
theorem zd_L_law_280 : decode code 280 = .ok (.aload_n 0, 1) := by decide +kernel
theorem zd_L_law_281 : decode code 281 = .ok (.iload_n 3, 1) := by decide +kernel
theorem zd_L_law_282 : decode code 282 = .ok (.iconst 3, 1) := by decide +kernel
theorem zd_L_law_283 : decode code 283 = .ok (.iadd, 1) := by decide +kernel
theorem zd_L_law_284 : decode code 284 = .ok (.iaload, 1) := by decide +kernel
theorem zd_L_law_285 : decode code 285 = .ok (.i2l, 1) := by decide +kernel
theorem zd_L_law_286 : decode code 286 = .ok (.bipush 32, 2) := by decide +kernel
theorem zd_L_law_288 : decode code 288 = .ok (.lshl, 1) := by decide +kernel
theorem zd_L_law_289 : decode code 289 = .ok (.aload_n 0, 1) := by decide +kernel
theorem zd_L_law_290 : decode code 290 = .ok (.iload_n 3, 1) := by decide +kernel
theorem zd_L_law_291 : decode code 291 = .ok (.iconst 4, 1) := by decide +kernel
theorem zd_L_law_292 : decode code 292 = .ok (.iadd, 1) := by decide +kernel
theorem zd_L_law_293 : decode code 293 = .ok (.iaload, 1) := by decide +kernel
theorem zd_L_law_294 : decode code 294 = .ok (.i2l, 1) := by decide +kernel
theorem zd_L_law_295 : decode code 295 = .ok (.ldc2_w 18, 3) := by decide +kernel
theorem zd_L_law_298 : decode code 298 = .ok (.land, 1) := by decide +kernel
theorem zd_L_law_299 : decode code 299 = .ok (.lor, 1) := by decide +kernel
theorem zd_L_law_300 : decode code 300 = .ok (.invokevirtual 24, 3) := by decide +kernel
theorem zd_L_law_303 : decode code 303 = .ok (.if_icmp .eq 1166, 3) := by decide +kernel
theorem zd_L_law_306 : decode code 306 = .ok (.iconst 0, 1) := by decide +kernel
theorem zd_L_law_308 : decode code 308 = .ok (.aload_n 1, 1) := by decide +kernel
theorem zd_L_law_309 : decode code 309 = .ok (.aload_n 0, 1) := by decide +kernel
theorem zd_L_law_310 : decode code 310 = .ok (.iload_n 3, 1) := by decide +kernel
theorem zd_L_law_311 : decode code 311 = .ok (.iconst 1, 1) := by decide +kernel
theorem zd_L_law_312 : decode code 312 = .ok (.iadd, 1) := by decide +kernel
theorem zd_L_law_313 : decode code 313 = .ok (.iaload, 1) := by decide +kernel
theorem zd_L_law_314 : decode code 314 = .ok (.aload_n 0, 1) := by decide +kernel
theorem zd_L_law_315 : decode code 315 = .ok (.iload_n 3, 1) := by decide +kernel
theorem zd_L_law_316 : decode code 316 = .ok (.iconst 2, 1) := by decide +kernel
theorem zd_L_law_317 : decode code 317 = .ok (.iadd, 1) := by decide +kernel
theorem zd_L_law_318 : decode code 318 = .ok (.iaload, 1) := by decide +kernel
theorem zd_L_law_319 : decode code 319 = .ok (.aload_n 0, 1) := by decide +kernel
theorem zd_L_law_320 : decode code 320 = .ok (.iload_n 3, 1) := by decide +kernel
theorem zd_L_law_321 : decode code 321 = .ok (.iconst 3, 1) := by decide +kernel
theorem zd_L_law_322 : decode code 322 = .ok (.iadd, 1) := by decide +kernel
theorem zd_L_law_323 : decode code 323 = .ok (.iaload, 1) := by decide +kernel
theorem zd_L_law_324 : decode code 324 = .ok (.aload_n 0, 1) := by decide +kernel
theorem zd_L_law_325 : decode code 325 = .ok (.iload_n 3, 1) := by decide +kernel
theorem zd_L_law_326 : decode code 326 = .ok (.iconst 4, 1) := by decide +kernel
theorem zd_L_law_327 : decode code 327 = .ok (.iadd, 1) := by decide +kernel
theorem zd_L_law_328 : decode code 328 = .ok (.iaload, 1) := by decide +kernel
theorem zd_L_law_329 : decode code 329 = .ok (.aload_n 0, 1) := by decide +kernel
theorem zd_L_law_330 : decode code 330 = .ok (.iload_n 3, 1) := by decide +kernel
theorem zd_L_law_331 : decode code 331 = .ok (.iconst 5, 1) := by decide +kernel
theorem zd_L_law_332 : decode code 332 = .ok (.iadd, 1) := by decide +kernel
theorem zd_L_law_333 : decode code 333 = .ok (.iaload, 1) := by decide +kernel
theorem zd_L_law_334 : decode code 334 = .ok (.invokevirtual 25, 3) := by decide +kernel
theorem zd_L_law_337 : decode code 337 = .ok (.aload_n 2, 1) := by decide +kernel
theorem zd_L_law_338 : decode code 338 = .ok (.aload_n 0, 1) := by decide +kernel
theorem zd_L_law_339 : decode code 339 = .ok (.iload_n 3, 1) := by decide +kernel
theorem zd_L_law_340 : decode code 340 = .ok (.iconst 1, 1) := by decide +kernel
theorem zd_L_law_341 : decode code 341 = .ok (.iadd, 1) := by decide +kernel
theorem zd_L_law_342 : decode code 342 = .ok (.iaload, 1) := by decide +kernel
theorem zd_L_law_343 : decode code 343 = .ok (.aload_n 0, 1) := by decide +kernel
theorem zd_L_law_344 : decode code 344 = .ok (.iload_n 3, 1) := by decide +kernel
theorem zd_L_law_345 : decode code 345 = .ok (.iconst 2, 1) := by decide +kernel
theorem zd_L_law_346 : decode code 346 = .ok (.iadd, 1) := by decide +kernel
theorem zd_L_law_347 : decode code 347 = .ok (.iaload, 1) := by decide +kernel
theorem zd_L_law_348 : decode code 348 = .ok (.aload_n 0, 1) := by decide +kernel
theorem zd_L_law_349 : decode code 349 = .ok (.iload_n 3, 1) := by decide +kernel
theorem zd_L_law_350 : decode code 350 = .ok (.iconst 3, 1) := by decide +kernel
theorem zd_L_law_351 : decode code 351 = .ok (.iadd, 1) := by decide +kernel
theorem zd_L_law_352 : decode code 352 = .ok (.iaload, 1) := by decide +kernel
theorem zd_L_law_353 : decode code 353 = .ok (.aload_n 0, 1) := by decide +kernel
theorem zd_L_law_354 : decode code 354 = .ok (.iload_n 3, 1) := by decide +kernel
theorem zd_L_law_355 : decode code 355 = .ok (.iconst 4, 1) := by decide +kernel
theorem zd_L_law_356 : decode code 356 = .ok (.iadd, 1) := by decide +kernel
theorem zd_L_law_357 : decode code 357 = .ok (.iaload, 1) := by decide +kernel
theorem zd_L_law_358 : decode code 358 = .ok (.aload_n 0, 1) := by decide +kernel
theorem zd_L_law_359 : decode code 359 = .ok (.iload_n 3, 1) := by decide +kernel
theorem zd_L_law_360 : decode code 360 = .ok (.iconst 5, 1) := by decide +kernel
theorem zd_L_law_361 : decode code 361 = .ok (.iadd, 1) := by decide +kernel
theorem zd_L_law_362 : decode code 362 = .ok (.iaload, 1) := by decide +kernel
theorem zd_L_law_363 : decode code 363 = .ok (.invokevirtual 29, 3) := by decide +kernel
theorem zd_L_law_366 : decode code 366 = .ok (.if_icmp .eq 1103, 3) := by decide +kernel
theorem zd_L_law_369 : decode code 369 = .ok (.iconst 0, 1) := by decide +kernel
theorem zd_L_law_371 : decode code 371 = .ok (.aload_n 1, 1) := by decide +kernel
theorem zd_L_law_372 : decode code 372 = .ok (.aload_n 0, 1) := by decide +kernel
theorem zd_L_law_373 : decode code 373 = .ok (.iload_n 3, 1) := by decide +kernel
theorem zd_L_law_374 : decode code 374 = .ok (.iconst 1, 1) := by decide +kernel
theorem zd_L_law_375 : decode code 375 = .ok (.iadd, 1) := by decide +kernel
theorem zd_L_law_376 : decode code 376 = .ok (.iaload, 1) := by decide +kernel
theorem zd_L_law_377 : decode code 377 = .ok (.aload_n 0, 1) := by decide +kernel
theorem zd_L_law_378 : decode code 378 = .ok (.iload_n 3, 1) := by decide +kernel
theorem zd_L_law_379 : decode code 379 = .ok (.iconst 2, 1) := by decide +kernel
theorem zd_L_law_380 : decode code 380 = .ok (.iadd, 1) := by decide +kernel
theorem zd_L_law_381 : decode code 381 = .ok (.iaload, 1) := by decide +kernel
theorem zd_L_law_382 : decode code 382 = .ok (.invokevirtual 30, 3) := by decide +kernel
theorem zd_L_law_385 : decode code 385 = .ok (.aload_n 2, 1) := by decide +kernel
theorem zd_L_law_386 : decode code 386 = .ok (.aload_n 0, 1) := by decide +kernel
theorem zd_L_law_387 : decode code 387 = .ok (.iload_n 3, 1) := by decide +kernel
theorem zd_L_law_388 : decode code 388 = .ok (.iconst 1, 1) := by decide +kernel
theorem zd_L_law_389 : decode code 389 = .ok (.iadd, 1) := by decide +kernel
theorem zd_L_law_390 : decode code 390 = .ok (.iaload, 1) := by decide +kernel
theorem zd_L_law_391 : decode code 391 = .ok (.aload_n 0, 1) := by decide +kernel
theorem zd_L_law_392 : decode code 392 = .ok (.iload_n 3, 1) := by decide +kernel
theorem zd_L_law_393 : decode code 393 = .ok (.iconst 2, 1) := by decide +kernel
theorem zd_L_law_394 : decode code 394 = .ok (.iadd, 1) := by decide +kernel
theorem zd_L_law_395 : decode code 395 = .ok (.iaload, 1) := by decide +kernel
theorem zd_L_law_396 : decode code 396 = .ok (.invokevirtual 34, 3) := by decide +kernel
theorem zd_L_law_399 : decode code 399 = .ok (.lcmp, 1) := by decide +kernel
theorem zd_L_law_400 : decode code 400 = .ok (.ifCond .eq 1069, 3) := by decide +kernel
theorem zd_L_law_405 : decode code 405 = .ok (.aload_n 1, 1) := by decide +kernel
theorem zd_L_law_406 : decode code 406 = .ok (.aload_n 0, 1) := by decide +kernel
theorem zd_L_law_407 : decode code 407 = .ok (.iload_n 3, 1) := by decide +kernel
theorem zd_L_law_408 : decode code 408 = .ok (.iconst 1, 1) := by decide +kernel
theorem zd_L_law_409 : decode code 409 = .ok (.iadd, 1) := by decide +kernel
theorem zd_L_law_410 : decode code 410 = .ok (.iaload, 1) := by decide +kernel
theorem zd_L_law_411 : decode code 411 = .ok (.aload_n 0, 1) := by decide +kernel
theorem zd_L_law_412 : decode code 412 = .ok (.iload_n 3, 1) := by decide +kernel
theorem zd_L_law_413 : decode code 413 = .ok (.iconst 2, 1) := by decide +kernel
theorem zd_L_law_414 : decode code 414 = .ok (.iadd, 1) := by decide +kernel
theorem zd_L_law_415 : decode code 415 = .ok (.iaload, 1) := by decide +kernel
theorem zd_L_law_416 : decode code 416 = .ok (.invokevirtual 35, 3) := by decide +kernel
theorem zd_L_law_419 : decode code 419 = .ok (.aload_n 2, 1) := by decide +kernel
theorem zd_L_law_420 : decode code 420 = .ok (.aload_n 0, 1) := by decide +kernel
theorem zd_L_law_421 : decode code 421 = .ok (.iload_n 3, 1) := by decide +kernel
theorem zd_L_law_422 : decode code 422 = .ok (.iconst 1, 1) := by decide +kernel
theorem zd_L_law_423 : decode code 423 = .ok (.iadd, 1) := by decide +kernel
theorem zd_L_law_424 : decode code 424 = .ok (.iaload, 1) := by decide +kernel
theorem zd_L_law_425 : decode code 425 = .ok (.aload_n 0, 1) := by decide +kernel
theorem zd_L_law_426 : decode code 426 = .ok (.iload_n 3, 1) := by decide +kernel
theorem zd_L_law_427 : decode code 427 = .ok (.iconst 2, 1) := by decide +kernel
theorem zd_L_law_428 : decode code 428 = .ok (.iadd, 1) := by decide +kernel
theorem zd_L_law_429 : decode code 429 = .ok (.iaload, 1) := by decide +kernel
theorem zd_L_law_430 : decode code 430 = .ok (.invokevirtual 39, 3) := by decide +kernel
theorem zd_L_law_433 : decode code 433 = .ok (.if_icmp .eq 1036, 3) := by decide +kernel
theorem zd_L_law_436 : decode code 436 = .ok (.iconst 0, 1) := by decide +kernel
theorem zd_L_law_438 : decode code 438 = .ok (.aload_n 1, 1) := by decide +kernel
theorem zd_L_law_439 : decode code 439 = .ok (.aload_n 0, 1) := by decide +kernel
theorem zd_L_law_440 : decode code 440 = .ok (.iload_n 3, 1) := by decide +kernel
theorem zd_L_law_441 : decode code 441 = .ok (.iconst 1, 1) := by decide +kernel
theorem zd_L_law_442 : decode code 442 = .ok (.iadd, 1) := by decide +kernel
theorem zd_L_law_443 : decode code 443 = .ok (.iaload, 1) := by decide +kernel
theorem zd_L_law_444 : decode code 444 = .ok (.invokevirtual 40, 3) := by decide +kernel
theorem zd_L_law_447 : decode code 447 = .ok (.aload_n 2, 1) := by decide +kernel
theorem zd_L_law_448 : decode code 448 = .ok (.aload_n 0, 1) := by decide +kernel
theorem zd_L_law_449 : decode code 449 = .ok (.iload_n 3, 1) := by decide +kernel
theorem zd_L_law_450 : decode code 450 = .ok (.iconst 1, 1) := by decide +kernel
theorem zd_L_law_451 : decode code 451 = .ok (.iadd, 1) := by decide +kernel
theorem zd_L_law_452 : decode code 452 = .ok (.iaload, 1) := by decide +kernel
theorem zd_L_law_453 : decode code 453 = .ok (.invokevirtual 44, 3) := by decide +kernel
theorem zd_L_law_456 : decode code 456 = .ok (.if_icmp .eq 1013, 3) := by decide +kernel
theorem zd_L_law_459 : decode code 459 = .ok (.iconst 0, 1) := by decide +kernel
theorem zd_L_law_461 : decode code 461 = .ok (.aload_n 1, 1) := by decide +kernel
theorem zd_L_law_462 : decode code 462 = .ok (.aload_n 0, 1) := by decide +kernel
theorem zd_L_law_463 : decode code 463 = .ok (.iload_n 3, 1) := by decide +kernel
theorem zd_L_law_464 : decode code 464 = .ok (.iconst 1, 1) := by decide +kernel
theorem zd_L_law_465 : decode code 465 = .ok (.iadd, 1) := by decide +kernel
theorem zd_L_law_466 : decode code 466 = .ok (.iaload, 1) := by decide +kernel
theorem zd_L_law_467 : decode code 467 = .ok (.aload_n 0, 1) := by decide +kernel
theorem zd_L_law_468 : decode code 468 = .ok (.iload_n 3, 1) := by decide +kernel
theorem zd_L_law_469 : decode code 469 = .ok (.iconst 2, 1) := by decide +kernel
theorem zd_L_law_470 : decode code 470 = .ok (.iadd, 1) := by decide +kernel
theorem zd_L_law_471 : decode code 471 = .ok (.iaload, 1) := by decide +kernel
theorem zd_L_law_472 : decode code 472 = .ok (.invokevirtual 45, 3) := by decide +kernel
theorem zd_L_law_475 : decode code 475 = .ok (.aload_n 2, 1) := by decide +kernel
theorem zd_L_law_476 : decode code 476 = .ok (.aload_n 0, 1) := by decide +kernel
theorem zd_L_law_477 : decode code 477 = .ok (.iload_n 3, 1) := by decide +kernel
theorem zd_L_law_478 : decode code 478 = .ok (.iconst 1, 1) := by decide +kernel
theorem zd_L_law_479 : decode code 479 = .ok (.iadd, 1) := by decide +kernel
theorem zd_L_law_480 : decode code 480 = .ok (.iaload, 1) := by decide +kernel
theorem zd_L_law_481 : decode code 481 = .ok (.aload_n 0, 1) := by decide +kernel
theorem zd_L_law_482 : decode code 482 = .ok (.iload_n 3, 1) := by decide +kernel
theorem zd_L_law_483 : decode code 483 = .ok (.iconst 2, 1) := by decide +kernel
theorem zd_L_law_484 : decode code 484 = .ok (.iadd, 1) := by decide +kernel
theorem zd_L_law_485 : decode code 485 = .ok (.iaload, 1) := by decide +kernel
theorem zd_L_law_486 : decode code 486 = .ok (.invokevirtual 48, 3) := by decide +kernel
theorem zd_L_law_489 : decode code 489 = .ok (.if_icmp .eq 980, 3) := by decide +kernel
theorem zd_L_law_492 : decode code 492 = .ok (.iconst 0, 1) := by decide +kernel
theorem zd_L_law_494 : decode code 494 = .ok (.aload_n 1, 1) := by decide +kernel
theorem zd_L_law_495 : decode code 495 = .ok (.aload_n 0, 1) := by decide +kernel
theorem zd_L_law_496 : decode code 496 = .ok (.iload_n 3, 1) := by decide +kernel
theorem zd_L_law_497 : decode code 497 = .ok (.iconst 1, 1) := by decide +kernel
theorem zd_L_law_498 : decode code 498 = .ok (.iadd, 1) := by decide +kernel
theorem zd_L_law_499 : decode code 499 = .ok (.iaload, 1) := by decide +kernel
theorem zd_L_law_500 : decode code 500 = .ok (.aload_n 0, 1) := by decide +kernel
theorem zd_L_law_501 : decode code 501 = .ok (.iload_n 3, 1) := by decide +kernel
theorem zd_L_law_502 : decode code 502 = .ok (.iconst 2, 1) := by decide +kernel
theorem zd_L_law_503 : decode code 503 = .ok (.iadd, 1) := by decide +kernel
theorem zd_L_law_504 : decode code 504 = .ok (.iaload, 1) := by decide +kernel
theorem zd_L_law_505 : decode code 505 = .ok (.invokevirtual 49, 3) := by decide +kernel
theorem zd_L_law_508 : decode code 508 = .ok (.aload_n 2, 1) := by decide +kernel
theorem zd_L_law_509 : decode code 509 = .ok (.aload_n 0, 1) := by decide +kernel
theorem zd_L_law_510 : decode code 510 = .ok (.iload_n 3, 1) := by decide +kernel
theorem zd_L_law_511 : decode code 511 = .ok (.iconst 1, 1) := by decide +kernel
theorem zd_L_law_512 : decode code 512 = .ok (.iadd, 1) := by decide +kernel
theorem zd_L_law_513 : decode code 513 = .ok (.iaload, 1) := by decide +kernel
theorem zd_L_law_514 : decode code 514 = .ok (.aload_n 0, 1) := by decide +kernel
theorem zd_L_law_515 : decode code 515 = .ok (.iload_n 3, 1) := by decide +kernel
theorem zd_L_law_516 : decode code 516 = .ok (.iconst 2, 1) := by decide +kernel
theorem zd_L_law_517 : decode code 517 = .ok (.iadd, 1) := by decide +kernel
theorem zd_L_law_518 : decode code 518 = .ok (.iaload, 1) := by decide +kernel
theorem zd_L_law_519 : decode code 519 = .ok (.invokevirtual 52, 3) := by decide +kernel
theorem zd_L_law_522 : decode code 522 = .ok (.if_icmp .eq 947, 3) := by decide +kernel
theorem zd_L_law_525 : decode code 525 = .ok (.iconst 0, 1) := by decide +kernel
theorem zd_L_law_527 : decode code 527 = .ok (.aload_n 1, 1) := by decide +kernel
theorem zd_L_law_528 : decode code 528 = .ok (.invokevirtual 53, 3) := by decide +kernel
theorem zd_L_law_531 : decode code 531 = .ok (.aload_n 2, 1) := by decide +kernel
theorem zd_L_law_532 : decode code 532 = .ok (.invokevirtual 57, 3) := by decide +kernel
theorem zd_L_law_535 : decode code 535 = .ok (.if_icmp .eq 934, 3) := by decide +kernel
theorem zd_L_law_538 : decode code 538 = .ok (.iconst 0, 1) := by decide +kernel
theorem zd_L_law_540 : decode code 540 = .ok (.aload_n 1, 1) := by decide +kernel
theorem zd_L_law_541 : decode code 541 = .ok (.aload_n 0, 1) := by decide +kernel
theorem zd_L_law_542 : decode code 542 = .ok (.iload_n 3, 1) := by decide +kernel
theorem zd_L_law_543 : decode code 543 = .ok (.iconst 1, 1) := by decide +kernel
theorem zd_L_law_544 : decode code 544 = .ok (.iadd, 1) := by decide +kernel
theorem zd_L_law_545 : decode code 545 = .ok (.iaload, 1) := by decide +kernel
theorem zd_L_law_546 : decode code 546 = .ok (.invokevirtual 58, 3) := by decide +kernel
theorem zd_L_law_549 : decode code 549 = .ok (.aload_n 2, 1) := by decide +kernel
theorem zd_L_law_550 : decode code 550 = .ok (.aload_n 0, 1) := by decide +kernel
theorem zd_L_law_551 : decode code 551 = .ok (.iload_n 3, 1) := by decide +kernel
theorem zd_L_law_552 : decode code 552 = .ok (.iconst 1, 1) := by decide +kernel
theorem zd_L_law_553 : decode code 553 = .ok (.iadd, 1) := by decide +kernel
theorem zd_L_law_554 : decode code 554 = .ok (.iaload, 1) := by decide +kernel
theorem zd_L_law_555 : decode code 555 = .ok (.invokevirtual 61, 3) := by decide +kernel
theorem zd_L_law_558 : decode code 558 = .ok (.if_icmp .eq 911, 3) := by decide +kernel
theorem zd_L_law_561 : decode code 561 = .ok (.iconst 0, 1) := by decide +kernel
theorem zd_L_law_563 : decode code 563 = .ok (.aload_n 1, 1) := by decide +kernel
theorem zd_L_law_564 : decode code 564 = .ok (.aload_n 0, 1) := by decide +kernel
theorem zd_L_law_565 : decode code 565 = .ok (.iload_n 3, 1) := by decide +kernel
theorem zd_L_law_566 : decode code 566 = .ok (.iconst 1, 1) := by decide +kernel
theorem zd_L_law_567 : decode code 567 = .ok (.iadd, 1) := by decide +kernel
theorem zd_L_law_568 : decode code 568 = .ok (.iaload, 1) := by decide +kernel
theorem zd_L_law_569 : decode code 569 = .ok (.aload_n 0, 1) := by decide +kernel
theorem zd_L_law_570 : decode code 570 = .ok (.iload_n 3, 1) := by decide +kernel
theorem zd_L_law_571 : decode code 571 = .ok (.iconst 2, 1) := by decide +kernel
theorem zd_L_law_572 : decode code 572 = .ok (.iadd, 1) := by decide +kernel
theorem zd_L_law_573 : decode code 573 = .ok (.iaload, 1) := by decide +kernel
theorem zd_L_law_574 : decode code 574 = .ok (.aload_n 0, 1) := by decide +kernel
theorem zd_L_law_575 : decode code 575 = .ok (.iload_n 3, 1) := by decide +kernel
theorem zd_L_law_576 : decode code 576 = .ok (.iconst 3, 1) := by decide +kernel
theorem zd_L_law_577 : decode code 577 = .ok (.iadd, 1) := by decide +kernel
theorem zd_L_law_578 : decode code 578 = .ok (.iaload, 1) := by decide +kernel
theorem zd_L_law_579 : decode code 579 = .ok (.invokevirtual 62, 3) := by decide +kernel
theorem zd_L_law_582 : decode code 582 = .ok (.aload_n 2, 1) := by decide +kernel
theorem zd_L_law_583 : decode code 583 = .ok (.aload_n 0, 1) := by decide +kernel
theorem zd_L_law_584 : decode code 584 = .ok (.iload_n 3, 1) := by decide +kernel
theorem zd_L_law_585 : decode code 585 = .ok (.iconst 1, 1) := by decide +kernel
theorem zd_L_law_586 : decode code 586 = .ok (.iadd, 1) := by decide +kernel
theorem zd_L_law_587 : decode code 587 = .ok (.iaload, 1) := by decide +kernel
theorem zd_L_law_588 : decode code 588 = .ok (.aload_n 0, 1) := by decide +kernel
theorem zd_L_law_589 : decode code 589 = .ok (.iload_n 3, 1) := by decide +kernel
theorem zd_L_law_590 : decode code 590 = .ok (.iconst 2, 1) := by decide +kernel
theorem zd_L_law_591 : decode code 591 = .ok (.iadd, 1) := by decide +kernel
theorem zd_L_law_592 : decode code 592 = .ok (.iaload, 1) := by decide +kernel
theorem zd_L_law_593 : decode code 593 = .ok (.aload_n 0, 1) := by decide +kernel
theorem zd_L_law_594 : decode code 594 = .ok (.iload_n 3, 1) := by decide +kernel
theorem zd_L_law_595 : decode code 595 = .ok (.iconst 3, 1) := by decide +kernel
theorem zd_L_law_596 : decode code 596 = .ok (.iadd, 1) := by decide +kernel
theorem zd_L_law_597 : decode code 597 = .ok (.iaload, 1) := by decide +kernel
theorem zd_L_law_598 : decode code 598 = .ok (.invokevirtual 65, 3) := by decide +kernel
theorem zd_L_law_601 : decode code 601 = .ok (.if_icmp .eq 868, 3) := by decide +kernel
theorem zd_L_law_604 : decode code 604 = .ok (.iconst 0, 1) := by decide +kernel
theorem zd_L_law_606 : decode code 606 = .ok (.aload_n 1, 1) := by decide +kernel
theorem zd_L_law_607 : decode code 607 = .ok (.aload_n 0, 1) := by decide +kernel
theorem zd_L_law_608 : decode code 608 = .ok (.iload_n 3, 1) := by decide +kernel
theorem zd_L_law_609 : decode code 609 = .ok (.iconst 1, 1) := by decide +kernel
theorem zd_L_law_610 : decode code 610 = .ok (.iadd, 1) := by decide +kernel
theorem zd_L_law_611 : decode code 611 = .ok (.iaload, 1) := by decide +kernel
theorem zd_L_law_612 : decode code 612 = .ok (.invokevirtual 66, 3) := by decide +kernel
theorem zd_L_law_615 : decode code 615 = .ok (.aload_n 2, 1) := by decide +kernel
theorem zd_L_law_616 : decode code 616 = .ok (.aload_n 0, 1) := by decide +kernel
theorem zd_L_law_617 : decode code 617 = .ok (.iload_n 3, 1) := by decide +kernel
theorem zd_L_law_618 : decode code 618 = .ok (.iconst 1, 1) := by decide +kernel
theorem zd_L_law_619 : decode code 619 = .ok (.iadd, 1) := by decide +kernel
theorem zd_L_law_620 : decode code 620 = .ok (.iaload, 1) := by decide +kernel
theorem zd_L_law_621 : decode code 621 = .ok (.invokevirtual 69, 3) := by decide +kernel
theorem zd_L_law_624 : decode code 624 = .ok (.if_icmp .eq 845, 3) := by decide +kernel
theorem zd_L_law_627 : decode code 627 = .ok (.iconst 0, 1) := by decide +kernel
theorem zd_L_law_629 : decode code 629 = .ok (.aload_n 1, 1) := by decide +kernel
theorem zd_L_law_630 : decode code 630 = .ok (.aload_n 0, 1) := by decide +kernel
theorem zd_L_law_631 : decode code 631 = .ok (.iload_n 3, 1) := by decide +kernel
theorem zd_L_law_632 : decode code 632 = .ok (.iconst 1, 1) := by decide +kernel
theorem zd_L_law_633 : decode code 633 = .ok (.iadd, 1) := by decide +kernel
theorem zd_L_law_634 : decode code 634 = .ok (.iaload, 1) := by decide +kernel
theorem zd_L_law_635 : decode code 635 = .ok (.aload_n 0, 1) := by decide +kernel
theorem zd_L_law_636 : decode code 636 = .ok (.iload_n 3, 1) := by decide +kernel
theorem zd_L_law_637 : decode code 637 = .ok (.iconst 2, 1) := by decide +kernel
theorem zd_L_law_638 : decode code 638 = .ok (.iadd, 1) := by decide +kernel
theorem zd_L_law_639 : decode code 639 = .ok (.iaload, 1) := by decide +kernel
theorem zd_L_law_640 : decode code 640 = .ok (.invokevirtual 70, 3) := by decide +kernel
theorem zd_L_law_643 : decode code 643 = .ok (.aload_n 2, 1) := by decide +kernel
theorem zd_L_law_644 : decode code 644 = .ok (.aload_n 0, 1) := by decide +kernel
theorem zd_L_law_645 : decode code 645 = .ok (.iload_n 3, 1) := by decide +kernel
theorem zd_L_law_646 : decode code 646 = .ok (.iconst 1, 1) := by decide +kernel
theorem zd_L_law_647 : decode code 647 = .ok (.iadd, 1) := by decide +kernel
theorem zd_L_law_648 : decode code 648 = .ok (.iaload, 1) := by decide +kernel
theorem zd_L_law_649 : decode code 649 = .ok (.aload_n 0, 1) := by decide +kernel
theorem zd_L_law_650 : decode code 650 = .ok (.iload_n 3, 1) := by decide +kernel
theorem zd_L_law_651 : decode code 651 = .ok (.iconst 2, 1) := by decide +kernel
theorem zd_L_law_652 : decode code 652 = .ok (.iadd, 1) := by decide +kernel
theorem zd_L_law_653 : decode code 653 = .ok (.iaload, 1) := by decide +kernel
theorem zd_L_law_654 : decode code 654 = .ok (.invokevirtual 73, 3) := by decide +kernel
theorem zd_L_law_657 : decode code 657 = .ok (.if_icmp .eq 812, 3) := by decide +kernel
theorem zd_L_law_660 : decode code 660 = .ok (.iconst 0, 1) := by decide +kernel
theorem zd_L_law_662 : decode code 662 = .ok (.aload_n 1, 1) := by decide +kernel
theorem zd_L_law_663 : decode code 663 = .ok (.aload_n 0, 1) := by decide +kernel
theorem zd_L_law_664 : decode code 664 = .ok (.iload_n 3, 1) := by decide +kernel
theorem zd_L_law_665 : decode code 665 = .ok (.iconst 1, 1) := by decide +kernel
theorem zd_L_law_666 : decode code 666 = .ok (.iadd, 1) := by decide +kernel
theorem zd_L_law_667 : decode code 667 = .ok (.iaload, 1) := by decide +kernel
theorem zd_L_law_668 : decode code 668 = .ok (.aload_n 0, 1) := by decide +kernel
theorem zd_L_law_669 : decode code 669 = .ok (.iload_n 3, 1) := by decide +kernel
theorem zd_L_law_670 : decode code 670 = .ok (.iconst 2, 1) := by decide +kernel
theorem zd_L_law_671 : decode code 671 = .ok (.iadd, 1) := by decide +kernel
theorem zd_L_law_672 : decode code 672 = .ok (.iaload, 1) := by decide +kernel
theorem zd_L_law_673 : decode code 673 = .ok (.aload_n 0, 1) := by decide +kernel
theorem zd_L_law_674 : decode code 674 = .ok (.iload_n 3, 1) := by decide +kernel
theorem zd_L_law_675 : decode code 675 = .ok (.iconst 3, 1) := by decide +kernel
theorem zd_L_law_676 : decode code 676 = .ok (.iadd, 1) := by decide +kernel
theorem zd_L_law_677 : decode code 677 = .ok (.iaload, 1) := by decide +kernel
theorem zd_L_law_678 : decode code 678 = .ok (.invokevirtual 74, 3) := by decide +kernel
theorem zd_L_law_681 : decode code 681 = .ok (.aload_n 2, 1) := by decide +kernel
theorem zd_L_law_682 : decode code 682 = .ok (.aload_n 0, 1) := by decide +kernel
theorem zd_L_law_683 : decode code 683 = .ok (.iload_n 3, 1) := by decide +kernel
theorem zd_L_law_684 : decode code 684 = .ok (.iconst 1, 1) := by decide +kernel
theorem zd_L_law_685 : decode code 685 = .ok (.iadd, 1) := by decide +kernel
theorem zd_L_law_686 : decode code 686 = .ok (.iaload, 1) := by decide +kernel
theorem zd_L_law_687 : decode code 687 = .ok (.aload_n 0, 1) := by decide +kernel
theorem zd_L_law_688 : decode code 688 = .ok (.iload_n 3, 1) := by decide +kernel
theorem zd_L_law_689 : decode code 689 = .ok (.iconst 2, 1) := by decide +kernel
theorem zd_L_law_690 : decode code 690 = .ok (.iadd, 1) := by decide +kernel
theorem zd_L_law_691 : decode code 691 = .ok (.iaload, 1) := by decide +kernel
theorem zd_L_law_692 : decode code 692 = .ok (.aload_n 0, 1) := by decide +kernel
theorem zd_L_law_693 : decode code 693 = .ok (.iload_n 3, 1) := by decide +kernel
theorem zd_L_law_694 : decode code 694 = .ok (.iconst 3, 1) := by decide +kernel
theorem zd_L_law_695 : decode code 695 = .ok (.iadd, 1) := by decide +kernel
theorem zd_L_law_696 : decode code 696 = .ok (.iaload, 1) := by decide +kernel
theorem zd_L_law_697 : decode code 697 = .ok (.invokevirtual 77, 3) := by decide +kernel
theorem zd_L_law_700 : decode code 700 = .ok (.if_icmp .eq 769, 3) := by decide +kernel
theorem zd_L_law_703 : decode code 703 = .ok (.iconst 0, 1) := by decide +kernel
theorem zd_L_law_705 : decode code 705 = .ok (.aload_n 1, 1) := by decide +kernel
theorem zd_L_law_706 : decode code 706 = .ok (.aload_n 0, 1) := by decide +kernel
theorem zd_L_law_707 : decode code 707 = .ok (.iload_n 3, 1) := by decide +kernel
theorem zd_L_law_708 : decode code 708 = .ok (.iconst 1, 1) := by decide +kernel
theorem zd_L_law_709 : decode code 709 = .ok (.iadd, 1) := by decide +kernel
theorem zd_L_law_710 : decode code 710 = .ok (.iaload, 1) := by decide +kernel
theorem zd_L_law_711 : decode code 711 = .ok (.aload_n 0, 1) := by decide +kernel
theorem zd_L_law_712 : decode code 712 = .ok (.iload_n 3, 1) := by decide +kernel
theorem zd_L_law_713 : decode code 713 = .ok (.iconst 2, 1) := by decide +kernel
theorem zd_L_law_714 : decode code 714 = .ok (.iadd, 1) := by decide +kernel
theorem zd_L_law_715 : decode code 715 = .ok (.iaload, 1) := by decide +kernel
theorem zd_L_law_716 : decode code 716 = .ok (.aload_n 0, 1) := by decide +kernel
theorem zd_L_law_717 : decode code 717 = .ok (.iload_n 3, 1) := by decide +kernel
theorem zd_L_law_718 : decode code 718 = .ok (.iconst 3, 1) := by decide +kernel
theorem zd_L_law_719 : decode code 719 = .ok (.iadd, 1) := by decide +kernel
theorem zd_L_law_720 : decode code 720 = .ok (.iaload, 1) := by decide +kernel
theorem zd_L_law_721 : decode code 721 = .ok (.invokevirtual 78, 3) := by decide +kernel
theorem zd_L_law_724 : decode code 724 = .ok (.aload_n 2, 1) := by decide +kernel
theorem zd_L_law_725 : decode code 725 = .ok (.aload_n 0, 1) := by decide +kernel
theorem zd_L_law_726 : decode code 726 = .ok (.iload_n 3, 1) := by decide +kernel
theorem zd_L_law_727 : decode code 727 = .ok (.iconst 1, 1) := by decide +kernel
theorem zd_L_law_728 : decode code 728 = .ok (.iadd, 1) := by decide +kernel
theorem zd_L_law_729 : decode code 729 = .ok (.iaload, 1) := by decide +kernel
theorem zd_L_law_730 : decode code 730 = .ok (.aload_n 0, 1) := by decide +kernel
theorem zd_L_law_731 : decode code 731 = .ok (.iload_n 3, 1) := by decide +kernel
theorem zd_L_law_732 : decode code 732 = .ok (.iconst 2, 1) := by decide +kernel
theorem zd_L_law_733 : decode code 733 = .ok (.iadd, 1) := by decide +kernel
theorem zd_L_law_734 : decode code 734 = .ok (.iaload, 1) := by decide +kernel
theorem zd_L_law_735 : decode code 735 = .ok (.aload_n 0, 1) := by decide +kernel
theorem zd_L_law_736 : decode code 736 = .ok (.iload_n 3, 1) := by decide +kernel
theorem zd_L_law_737 : decode code 737 = .ok (.iconst 3, 1) := by decide +kernel
theorem zd_L_law_738 : decode code 738 = .ok (.iadd, 1) := by decide +kernel
theorem zd_L_law_739 : decode code 739 = .ok (.iaload, 1) := by decide +kernel
theorem zd_L_law_740 : decode code 740 = .ok (.invokevirtual 81, 3) := by decide +kernel
theorem zd_L_law_743 : decode code 743 = .ok (.if_icmp .eq 726, 3) := by decide +kernel
theorem zd_L_law_746 : decode code 746 = .ok (.iconst 0, 1) := by decide +kernel
theorem zd_L_law_748 : decode code 748 = .ok (.aload_n 1, 1) := by decide +kernel
theorem zd_L_law_749 : decode code 749 = .ok (.aload_n 0, 1) := by decide +kernel
theorem zd_L_law_750 : decode code 750 = .ok (.iload_n 3, 1) := by decide +kernel
theorem zd_L_law_751 : decode code 751 = .ok (.iconst 1, 1) := by decide +kernel
theorem zd_L_law_752 : decode code 752 = .ok (.iadd, 1) := by decide +kernel
theorem zd_L_law_753 : decode code 753 = .ok (.iaload, 1) := by decide +kernel
theorem zd_L_law_754 : decode code 754 = .ok (.aload_n 0, 1) := by decide +kernel
theorem zd_L_law_755 : decode code 755 = .ok (.iload_n 3, 1) := by decide +kernel
theorem zd_L_law_756 : decode code 756 = .ok (.iconst 2, 1) := by decide +kernel
theorem zd_L_law_757 : decode code 757 = .ok (.iadd, 1) := by decide +kernel
theorem zd_L_law_758 : decode code 758 = .ok (.iaload, 1) := by decide +kernel
theorem zd_L_law_759 : decode code 759 = .ok (.aload_n 0, 1) := by decide +kernel
theorem zd_L_law_760 : decode code 760 = .ok (.iload_n 3, 1) := by decide +kernel
theorem zd_L_law_761 : decode code 761 = .ok (.iconst 3, 1) := by decide +kernel
theorem zd_L_law_762 : decode code 762 = .ok (.iadd, 1) := by decide +kernel
theorem zd_L_law_763 : decode code 763 = .ok (.iaload, 1) := by decide +kernel
theorem zd_L_law_764 : decode code 764 = .ok (.invokevirtual 82, 3) := by decide +kernel
theorem zd_L_law_767 : decode code 767 = .ok (.aload_n 2, 1) := by decide +kernel
theorem zd_L_law_768 : decode code 768 = .ok (.aload_n 0, 1) := by decide +kernel
theorem zd_L_law_769 : decode code 769 = .ok (.iload_n 3, 1) := by decide +kernel
theorem zd_L_law_770 : decode code 770 = .ok (.iconst 1, 1) := by decide +kernel
theorem zd_L_law_771 : decode code 771 = .ok (.iadd, 1) := by decide +kernel
theorem zd_L_law_772 : decode code 772 = .ok (.iaload, 1) := by decide +kernel
theorem zd_L_law_773 : decode code 773 = .ok (.aload_n 0, 1) := by decide +kernel
theorem zd_L_law_774 : decode code 774 = .ok (.iload_n 3, 1) := by decide +kernel
theorem zd_L_law_775 : decode code 775 = .ok (.iconst 2, 1) := by decide +kernel
theorem zd_L_law_776 : decode code 776 = .ok (.iadd, 1) := by decide +kernel
theorem zd_L_law_777 : decode code 777 = .ok (.iaload, 1) := by decide +kernel
theorem zd_L_law_778 : decode code 778 = .ok (.aload_n 0, 1) := by decide +kernel
theorem zd_L_law_779 : decode code 779 = .ok (.iload_n 3, 1) := by decide +kernel
theorem zd_L_law_780 : decode code 780 = .ok (.iconst 3, 1) := by decide +kernel
theorem zd_L_law_781 : decode code 781 = .ok (.iadd, 1) := by decide +kernel
theorem zd_L_law_782 : decode code 782 = .ok (.iaload, 1) := by decide +kernel
theorem zd_L_law_783 : decode code 783 = .ok (.invokevirtual 85, 3) := by decide +kernel
theorem zd_L_law_786 : decode code 786 = .ok (.if_icmp .eq 683, 3) := by decide +kernel
theorem zd_L_law_789 : decode code 789 = .ok (.iconst 0, 1) := by decide +kernel
theorem zd_L_law_791 : decode code 791 = .ok (.aload_n 1, 1) := by decide +kernel
theorem zd_L_law_792 : decode code 792 = .ok (.aload_n 0, 1) := by decide +kernel
theorem zd_L_law_793 : decode code 793 = .ok (.iload_n 3, 1) := by decide +kernel
theorem zd_L_law_794 : decode code 794 = .ok (.iconst 1, 1) := by decide +kernel
theorem zd_L_law_795 : decode code 795 = .ok (.iadd, 1) := by decide +kernel
theorem zd_L_law_796 : decode code 796 = .ok (.iaload, 1) := by decide +kernel
theorem zd_L_law_797 : decode code 797 = .ok (.aload_n 0, 1) := by decide +kernel
theorem zd_L_law_798 : decode code 798 = .ok (.iload_n 3, 1) := by decide +kernel
theorem zd_L_law_799 : decode code 799 = .ok (.iconst 2, 1) := by decide +kernel
theorem zd_L_law_800 : decode code 800 = .ok (.iadd, 1) := by decide +kernel
theorem zd_L_law_801 : decode code 801 = .ok (.iaload, 1) := by decide +kernel
theorem zd_L_law_802 : decode code 802 = .ok (.aload_n 0, 1) := by decide +kernel
theorem zd_L_law_803 : decode code 803 = .ok (.iload_n 3, 1) := by decide +kernel
theorem zd_L_law_804 : decode code 804 = .ok (.iconst 3, 1) := by decide +kernel
theorem zd_L_law_805 : decode code 805 = .ok (.iadd, 1) := by decide +kernel
theorem zd_L_law_806 : decode code 806 = .ok (.iaload, 1) := by decide +kernel
theorem zd_L_law_807 : decode code 807 = .ok (.invokevirtual 86, 3) := by decide +kernel
theorem zd_L_law_810 : decode code 810 = .ok (.aload_n 2, 1) := by decide +kernel
theorem zd_L_law_811 : decode code 811 = .ok (.aload_n 0, 1) := by decide +kernel
theorem zd_L_law_812 : decode code 812 = .ok (.iload_n 3, 1) := by decide +kernel
theorem zd_L_law_813 : decode code 813 = .ok (.iconst 1, 1) := by decide +kernel
theorem zd_L_law_814 : decode code 814 = .ok (.iadd, 1) := by decide +kernel
theorem zd_L_law_815 : decode code 815 = .ok (.iaload, 1) := by decide +kernel
theorem zd_L_law_816 : decode code 816 = .ok (.aload_n 0, 1) := by decide +kernel
theorem zd_L_law_817 : decode code 817 = .ok (.iload_n 3, 1) := by decide +kernel
theorem zd_L_law_818 : decode code 818 = .ok (.iconst 2, 1) := by decide +kernel
theorem zd_L_law_819 : decode code 819 = .ok (.iadd, 1) := by decide +kernel
theorem zd_L_law_820 : decode code 820 = .ok (.iaload, 1) := by decide +kernel
theorem zd_L_law_821 : decode code 821 = .ok (.aload_n 0, 1) := by decide +kernel
theorem zd_L_law_822 : decode code 822 = .ok (.iload_n 3, 1) := by decide +kernel
theorem zd_L_law_823 : decode code 823 = .ok (.iconst 3, 1) := by decide +kernel
theorem zd_L_law_824 : decode code 824 = .ok (.iadd, 1) := by decide +kernel
theorem zd_L_law_825 : decode code 825 = .ok (.iaload, 1) := by decide +kernel
theorem zd_L_law_826 : decode code 826 = .ok (.invokevirtual 89, 3) := by decide +kernel
theorem zd_L_law_829 : decode code 829 = .ok (.if_icmp .eq 640, 3) := by decide +kernel
theorem zd_L_law_832 : decode code 832 = .ok (.iconst 0, 1) := by decide +kernel
theorem zd_L_law_834 : decode code 834 = .ok (.aload_n 1, 1) := by decide +kernel
theorem zd_L_law_835 : decode code 835 = .ok (.aload_n 0, 1) := by decide +kernel
theorem zd_L_law_836 : decode code 836 = .ok (.iload_n 3, 1) := by decide +kernel
theorem zd_L_law_837 : decode code 837 = .ok (.iconst 1, 1) := by decide +kernel
theorem zd_L_law_838 : decode code 838 = .ok (.iadd, 1) := by decide +kernel
theorem zd_L_law_839 : decode code 839 = .ok (.iaload, 1) := by decide +kernel
theorem zd_L_law_840 : decode code 840 = .ok (.aload_n 0, 1) := by decide +kernel
theorem zd_L_law_841 : decode code 841 = .ok (.iload_n 3, 1) := by decide +kernel
theorem zd_L_law_842 : decode code 842 = .ok (.iconst 2, 1) := by decide +kernel
theorem zd_L_law_843 : decode code 843 = .ok (.iadd, 1) := by decide +kernel
theorem zd_L_law_844 : decode code 844 = .ok (.iaload, 1) := by decide +kernel
theorem zd_L_law_845 : decode code 845 = .ok (.aload_n 0, 1) := by decide +kernel
theorem zd_L_law_846 : decode code 846 = .ok (.iload_n 3, 1) := by decide +kernel
theorem zd_L_law_847 : decode code 847 = .ok (.iconst 3, 1) := by decide +kernel
theorem zd_L_law_848 : decode code 848 = .ok (.iadd, 1) := by decide +kernel
theorem zd_L_law_849 : decode code 849 = .ok (.iaload, 1) := by decide +kernel
theorem zd_L_law_850 : decode code 850 = .ok (.aload_n 0, 1) := by decide +kernel
theorem zd_L_law_851 : decode code 851 = .ok (.iload_n 3, 1) := by decide +kernel
theorem zd_L_law_852 : decode code 852 = .ok (.iconst 4, 1) := by decide +kernel
theorem zd_L_law_853 : decode code 853 = .ok (.iadd, 1) := by decide +kernel
theorem zd_L_law_854 : decode code 854 = .ok (.iaload, 1) := by decide +kernel
theorem zd_L_law_855 : decode code 855 = .ok (.aload_n 0, 1) := by decide +kernel
theorem zd_L_law_856 : decode code 856 = .ok (.iload_n 3, 1) := by decide +kernel
theorem zd_L_law_857 : decode code 857 = .ok (.iconst 5, 1) := by decide +kernel
theorem zd_L_law_858 : decode code 858 = .ok (.iadd, 1) := by decide +kernel
theorem zd_L_law_859 : decode code 859 = .ok (.iaload, 1) := by decide +kernel
theorem zd_L_law_860 : decode code 860 = .ok (.aload_n 0, 1) := by decide +kernel
theorem zd_L_law_861 : decode code 861 = .ok (.iload_n 3, 1) := by decide +kernel
theorem zd_L_law_862 : decode code 862 = .ok (.bipush 6, 2) := by decide +kernel
theorem zd_L_law_864 : decode code 864 = .ok (.iadd, 1) := by decide +kernel
theorem zd_L_law_865 : decode code 865 = .ok (.iaload, 1) := by decide +kernel
theorem zd_L_law_866 : decode code 866 = .ok (.invokevirtual 90, 3) := by decide +kernel
theorem zd_L_law_869 : decode code 869 = .ok (.aload_n 2, 1) := by decide +kernel
theorem zd_L_law_870 : decode code 870 = .ok (.aload_n 0, 1) := by decide +kernel
theorem zd_L_law_871 : decode code 871 = .ok (.iload_n 3, 1) := by decide +kernel
theorem zd_L_law_872 : decode code 872 = .ok (.iconst 1, 1) := by decide +kernel
theorem zd_L_law_873 : decode code 873 = .ok (.iadd, 1) := by decide +kernel
theorem zd_L_law_874 : decode code 874 = .ok (.iaload, 1) := by decide +kernel
theorem zd_L_law_875 : decode code 875 = .ok (.aload_n 0, 1) := by decide +kernel
theorem zd_L_law_876 : decode code 876 = .ok (.iload_n 3, 1) := by decide +kernel
theorem zd_L_law_877 : decode code 877 = .ok (.iconst 2, 1) := by decide +kernel
theorem zd_L_law_878 : decode code 878 = .ok (.iadd, 1) := by decide +kernel
theorem zd_L_law_879 : decode code 879 = .ok (.iaload, 1) := by decide +kernel
theorem zd_L_law_880 : decode code 880 = .ok (.aload_n 0, 1) := by decide +kernel
theorem zd_L_law_881 : decode code 881 = .ok (.iload_n 3, 1) := by decide +kernel
theorem zd_L_law_882 : decode code 882 = .ok (.iconst 3, 1) := by decide +kernel
theorem zd_L_law_883 : decode code 883 = .ok (.iadd, 1) := by decide +kernel
theorem zd_L_law_884 : decode code 884 = .ok (.iaload, 1) := by decide +kernel
theorem zd_L_law_885 : decode code 885 = .ok (.aload_n 0, 1) := by decide +kernel
theorem zd_L_law_886 : decode code 886 = .ok (.iload_n 3, 1) := by decide +kernel
theorem zd_L_law_887 : decode code 887 = .ok (.iconst 4, 1) := by decide +kernel
theorem zd_L_law_888 : decode code 888 = .ok (.iadd, 1) := by decide +kernel
theorem zd_L_law_889 : decode code 889 = .ok (.iaload, 1) := by decide +kernel
theorem zd_L_law_890 : decode code 890 = .ok (.aload_n 0, 1) := by decide +kernel
theorem zd_L_law_891 : decode code 891 = .ok (.iload_n 3, 1) := by decide +kernel
theorem zd_L_law_892 : decode code 892 = .ok (.iconst 5, 1) := by decide +kernel
theorem zd_L_law_893 : decode code 893 = .ok (.iadd, 1) := by decide +kernel
theorem zd_L_law_894 : decode code 894 = .ok (.iaload, 1) := by decide +kernel
theorem zd_L_law_895 : decode code 895 = .ok (.aload_n 0, 1) := by decide +kernel
theorem zd_L_law_896 : decode code 896 = .ok (.iload_n 3, 1) := by decide +kernel
theorem zd_L_law_897 : decode code 897 = .ok (.bipush 6, 2) := by decide +kernel
theorem zd_L_law_899 : decode code 899 = .ok (.iadd, 1) := by decide +kernel
theorem zd_L_law_900 : decode code 900 = .ok (.iaload, 1) := by decide +kernel
theorem zd_L_law_901 : decode code 901 = .ok (.invokevirtual 94, 3) := by decide +kernel
theorem zd_L_law_904 : decode code 904 = .ok (.if_icmp .eq 565, 3) := by decide +kernel
theorem zd_L_law_907 : decode code 907 = .ok (.iconst 0, 1) := by decide +kernel
theorem zd_L_law_909 : decode code 909 = .ok (.aload_n 1, 1) := by decide +kernel
theorem zd_L_law_910 : decode code 910 = .ok (.aload_n 0, 1) := by decide +kernel
theorem zd_L_law_911 : decode code 911 = .ok (.iload_n 3, 1) := by decide +kernel
theorem zd_L_law_912 : decode code 912 = .ok (.iconst 1, 1) := by decide +kernel
theorem zd_L_law_913 : decode code 913 = .ok (.iadd, 1) := by decide +kernel
theorem zd_L_law_914 : decode code 914 = .ok (.iaload, 1) := by decide +kernel
theorem zd_L_law_915 : decode code 915 = .ok (.aload_n 0, 1) := by decide +kernel
theorem zd_L_law_916 : decode code 916 = .ok (.iload_n 3, 1) := by decide +kernel
theorem zd_L_law_917 : decode code 917 = .ok (.iconst 2, 1) := by decide +kernel
theorem zd_L_law_918 : decode code 918 = .ok (.iadd, 1) := by decide +kernel
theorem zd_L_law_919 : decode code 919 = .ok (.iaload, 1) := by decide +kernel
theorem zd_L_law_920 : decode code 920 = .ok (.invokevirtual 95, 3) := by decide +kernel
theorem zd_L_law_923 : decode code 923 = .ok (.aload_n 2, 1) := by decide +kernel
theorem zd_L_law_924 : decode code 924 = .ok (.aload_n 0, 1) := by decide +kernel
theorem zd_L_law_925 : decode code 925 = .ok (.iload_n 3, 1) := by decide +kernel
theorem zd_L_law_926 : decode code 926 = .ok (.iconst 1, 1) := by decide +kernel
theorem zd_L_law_927 : decode code 927 = .ok (.iadd, 1) := by decide +kernel
theorem zd_L_law_928 : decode code 928 = .ok (.iaload, 1) := by decide +kernel
theorem zd_L_law_929 : decode code 929 = .ok (.aload_n 0, 1) := by decide +kernel
theorem zd_L_law_930 : decode code 930 = .ok (.iload_n 3, 1) := by decide +kernel
theorem zd_L_law_931 : decode code 931 = .ok (.iconst 2, 1) := by decide +kernel
theorem zd_L_law_932 : decode code 932 = .ok (.iadd, 1) := by decide +kernel
theorem zd_L_law_933 : decode code 933 = .ok (.iaload, 1) := by decide +kernel
theorem zd_L_law_934 : decode code 934 = .ok (.invokevirtual 98, 3) := by decide +kernel
theorem zd_L_law_937 : decode code 937 = .ok (.if_icmp .eq 532, 3) := by decide +kernel
theorem zd_L_law_940 : decode code 940 = .ok (.iconst 0, 1) := by decide +kernel
theorem zd_L_law_942 : decode code 942 = .ok (.aload_n 1, 1) := by decide +kernel
theorem zd_L_law_943 : decode code 943 = .ok (.aload_n 0, 1) := by decide +kernel
theorem zd_L_law_944 : decode code 944 = .ok (.iload_n 3, 1) := by decide +kernel
theorem zd_L_law_945 : decode code 945 = .ok (.iconst 1, 1) := by decide +kernel
theorem zd_L_law_946 : decode code 946 = .ok (.iadd, 1) := by decide +kernel
theorem zd_L_law_947 : decode code 947 = .ok (.iaload, 1) := by decide +kernel
theorem zd_L_law_948 : decode code 948 = .ok (.aload_n 0, 1) := by decide +kernel
theorem zd_L_law_949 : decode code 949 = .ok (.iload_n 3, 1) := by decide +kernel
theorem zd_L_law_950 : decode code 950 = .ok (.iconst 2, 1) := by decide +kernel
theorem zd_L_law_951 : decode code 951 = .ok (.iadd, 1) := by decide +kernel
theorem zd_L_law_952 : decode code 952 = .ok (.iaload, 1) := by decide +kernel
theorem zd_L_law_953 : decode code 953 = .ok (.ifCond .eq 7, 3) := by decide +kernel
theorem zd_L_law_956 : decode code 956 = .ok (.iconst 1, 1) := by decide +kernel
theorem zd_L_law_957 : decode code 957 = .ok (.goto 4, 3) := by decide +kernel
theorem zd_L_law_960 : decode code 960 = .ok (.iconst 0, 1) := by decide +kernel
theorem zd_L_law_961 : decode code 961 = .ok (.invokevirtual 99, 3) := by decide +kernel
theorem zd_L_law_964 : decode code 964 = .ok (.aload_n 2, 1) := by decide +kernel
theorem zd_L_law_965 : decode code 965 = .ok (.aload_n 0, 1) := by decide +kernel
theorem zd_L_law_966 : decode code 966 = .ok (.iload_n 3, 1) := by decide +kernel
theorem zd_L_law_967 : decode code 967 = .ok (.iconst 1, 1) := by decide +kernel
theorem zd_L_law_968 : decode code 968 = .ok (.iadd, 1) := by decide +kernel
theorem zd_L_law_969 : decode code 969 = .ok (.iaload, 1) := by decide +kernel
theorem zd_L_law_970 : decode code 970 = .ok (.aload_n 0, 1) := by decide +kernel
theorem zd_L_law_971 : decode code 971 = .ok (.iload_n 3, 1) := by decide +kernel
theorem zd_L_law_972 : decode code 972 = .ok (.iconst 2, 1) := by decide +kernel
theorem zd_L_law_973 : decode code 973 = .ok (.iadd, 1) := by decide +kernel
theorem zd_L_law_974 : decode code 974 = .ok (.iaload, 1) := by decide +kernel
theorem zd_L_law_975 : decode code 975 = .ok (.ifCond .eq 7, 3) := by decide +kernel
theorem zd_L_law_978 : decode code 978 = .ok (.iconst 1, 1) := by decide +kernel
theorem zd_L_law_979 : decode code 979 = .ok (.goto 4, 3) := by decide +kernel
theorem zd_L_law_982 : decode code 982 = .ok (.iconst 0, 1) := by decide +kernel
theorem zd_L_law_983 : decode code 983 = .ok (.invokevirtual 103, 3) := by decide +kernel
theorem zd_L_law_986 : decode code 986 = .ok (.if_icmp .eq 483, 3) := by decide +kernel
theorem zd_L_law_989 : decode code 989 = .ok (.iconst 0, 1) := by decide +kernel
theorem zd_L_law_991 : decode code 991 = .ok (.aload_n 1, 1) := by decide +kernel
theorem zd_L_law_992 : decode code 992 = .ok (.aload_n 0, 1) := by decide +kernel
theorem zd_L_law_993 : decode code 993 = .ok (.iload_n 3, 1) := by decide +kernel
theorem zd_L_law_994 : decode code 994 = .ok (.iconst 1, 1) := by decide +kernel
theorem zd_L_law_995 : decode code 995 = .ok (.iadd, 1) := by decide +kernel
theorem zd_L_law_996 : decode code 996 = .ok (.iaload, 1) := by decide +kernel
theorem zd_L_law_997 : decode code 997 = .ok (.aload_n 0, 1) := by decide +kernel
theorem zd_L_law_998 : decode code 998 = .ok (.iload_n 3, 1) := by decide +kernel
theorem zd_L_law_999 : decode code 999 = .ok (.iconst 2, 1) := by decide +kernel
theorem zd_L_law_1000 : decode code 1000 = .ok (.iadd, 1) := by decide +kernel
theorem zd_L_law_1001 : decode code 1001 = .ok (.iaload, 1) := by decide +kernel
theorem zd_L_law_1002 : decode code 1002 = .ok (.aload_n 0, 1) := by decide +kernel
theorem zd_L_law_1003 : decode code 1003 = .ok (.iload_n 3, 1) := by decide +kernel
theorem zd_L_law_1004 : decode code 1004 = .ok (.iconst 3, 1) := by decide +kernel
theorem zd_L_law_1005 : decode code 1005 = .ok (.iadd, 1) := by decide +kernel
theorem zd_L_law_1006 : decode code 1006 = .ok (.iaload, 1) := by decide +kernel
theorem zd_L_law_1007 : decode code 1007 = .ok (.invokevirtual 104, 3) := by decide +kernel
theorem zd_L_law_1010 : decode code 1010 = .ok (.aload_n 2, 1) := by decide +kernel
theorem zd_L_law_1011 : decode code 1011 = .ok (.aload_n 0, 1) := by decide +kernel
theorem zd_L_law_1012 : decode code 1012 = .ok (.iload_n 3, 1) := by decide +kernel
theorem zd_L_law_1013 : decode code 1013 = .ok (.iconst 1, 1) := by decide +kernel
theorem zd_L_law_1014 : decode code 1014 = .ok (.iadd, 1) := by decide +kernel
theorem zd_L_law_1015 : decode code 1015 = .ok (.iaload, 1) := by decide +kernel
theorem zd_L_law_1016 : decode code 1016 = .ok (.aload_n 0, 1) := by decide +kernel
theorem zd_L_law_1017 : decode code 1017 = .ok (.iload_n 3, 1) := by decide +kernel
theorem zd_L_law_1018 : decode code 1018 = .ok (.iconst 2, 1) := by decide +kernel
theorem zd_L_law_1019 : decode code 1019 = .ok (.iadd, 1) := by decide +kernel
theorem zd_L_law_1020 : decode code 1020 = .ok (.iaload, 1) := by decide +kernel
theorem zd_L_law_1021 : decode code 1021 = .ok (.aload_n 0, 1) := by decide +kernel
theorem zd_L_law_1022 : decode code 1022 = .ok (.iload_n 3, 1) := by decide +kernel
theorem zd_L_law_1023 : decode code 1023 = .ok (.iconst 3, 1) := by decide +kernel
theorem zd_L_law_1024 : decode code 1024 = .ok (.iadd, 1) := by decide +kernel
theorem zd_L_law_1025 : decode code 1025 = .ok (.iaload, 1) := by decide +kernel
theorem zd_L_law_1026 : decode code 1026 = .ok (.invokevirtual 107, 3) := by decide +kernel
theorem zd_L_law_1029 : decode code 1029 = .ok (.if_icmp .eq 440, 3) := by decide +kernel
theorem zd_L_law_1032 : decode code 1032 = .ok (.iconst 0, 1) := by decide +kernel
theorem zd_L_law_1034 : decode code 1034 = .ok (.aload_n 1, 1) := by decide +kernel
theorem zd_L_law_1035 : decode code 1035 = .ok (.aload_n 0, 1) := by decide +kernel
theorem zd_L_law_1036 : decode code 1036 = .ok (.iload_n 3, 1) := by decide +kernel
theorem zd_L_law_1037 : decode code 1037 = .ok (.iconst 1, 1) := by decide +kernel
theorem zd_L_law_1038 : decode code 1038 = .ok (.iadd, 1) := by decide +kernel
theorem zd_L_law_1039 : decode code 1039 = .ok (.iaload, 1) := by decide +kernel
theorem zd_L_law_1040 : decode code 1040 = .ok (.aload_n 0, 1) := by decide +kernel
theorem zd_L_law_1041 : decode code 1041 = .ok (.iload_n 3, 1) := by decide +kernel
theorem zd_L_law_1042 : decode code 1042 = .ok (.iconst 2, 1) := by decide +kernel
theorem zd_L_law_1043 : decode code 1043 = .ok (.iadd, 1) := by decide +kernel
theorem zd_L_law_1044 : decode code 1044 = .ok (.iaload, 1) := by decide +kernel
theorem zd_L_law_1045 : decode code 1045 = .ok (.aload_n 0, 1) := by decide +kernel
theorem zd_L_law_1046 : decode code 1046 = .ok (.iload_n 3, 1) := by decide +kernel
theorem zd_L_law_1047 : decode code 1047 = .ok (.iconst 3, 1) := by decide +kernel
theorem zd_L_law_1048 : decode code 1048 = .ok (.iadd, 1) := by decide +kernel
theorem zd_L_law_1049 : decode code 1049 = .ok (.iaload, 1) := by decide +kernel
theorem zd_L_law_1050 : decode code 1050 = .ok (.invokevirtual 108, 3) := by decide +kernel
theorem zd_L_law_1053 : decode code 1053 = .ok (.aload_n 2, 1) := by decide +kernel
theorem zd_L_law_1054 : decode code 1054 = .ok (.aload_n 0, 1) := by decide +kernel
theorem zd_L_law_1055 : decode code 1055 = .ok (.iload_n 3, 1) := by decide +kernel
theorem zd_L_law_1056 : decode code 1056 = .ok (.iconst 1, 1) := by decide +kernel
theorem zd_L_law_1057 : decode code 1057 = .ok (.iadd, 1) := by decide +kernel
theorem zd_L_law_1058 : decode code 1058 = .ok (.iaload, 1) := by decide +kernel
theorem zd_L_law_1059 : decode code 1059 = .ok (.aload_n 0, 1) := by decide +kernel
theorem zd_L_law_1060 : decode code 1060 = .ok (.iload_n 3, 1) := by decide +kernel
theorem zd_L_law_1061 : decode code 1061 = .ok (.iconst 2, 1) := by decide +kernel
theorem zd_L_law_1062 : decode code 1062 = .ok (.iadd, 1) := by decide +kernel
theorem zd_L_law_1063 : decode code 1063 = .ok (.iaload, 1) := by decide +kernel
theorem zd_L_law_1064 : decode code 1064 = .ok (.aload_n 0, 1) := by decide +kernel
theorem zd_L_law_1065 : decode code 1065 = .ok (.iload_n 3, 1) := by decide +kernel
theorem zd_L_law_1066 : decode code 1066 = .ok (.iconst 3, 1) := by decide +kernel
theorem zd_L_law_1067 : decode code 1067 = .ok (.iadd, 1) := by decide +kernel
theorem zd_L_law_1068 : decode code 1068 = .ok (.iaload, 1) := by decide +kernel
theorem zd_L_law_1069 : decode code 1069 = .ok (.invokevirtual 111, 3) := by decide +kernel
theorem zd_L_law_1072 : decode code 1072 = .ok (.if_icmp .eq 397, 3) := by decide +kernel
theorem zd_L_law_1075 : decode code 1075 = .ok (.iconst 0, 1) := by decide +kernel
theorem zd_L_law_1077 : decode code 1077 = .ok (.aload_n 1, 1) := by decide +kernel
theorem zd_L_law_1078 : decode code 1078 = .ok (.aload_n 0, 1) := by decide +kernel
theorem zd_L_law_1079 : decode code 1079 = .ok (.iload_n 3, 1) := by decide +kernel
theorem zd_L_law_1080 : decode code 1080 = .ok (.iconst 1, 1) := by decide +kernel
theorem zd_L_law_1081 : decode code 1081 = .ok (.iadd, 1) := by decide +kernel
theorem zd_L_law_1082 : decode code 1082 = .ok (.iaload, 1) := by decide +kernel
theorem zd_L_law_1083 : decode code 1083 = .ok (.aload_n 0, 1) := by decide +kernel
theorem zd_L_law_1084 : decode code 1084 = .ok (.iload_n 3, 1) := by decide +kernel
theorem zd_L_law_1085 : decode code 1085 = .ok (.iconst 2, 1) := by decide +kernel
theorem zd_L_law_1086 : decode code 1086 = .ok (.iadd, 1) := by decide +kernel
theorem zd_L_law_1087 : decode code 1087 = .ok (.iaload, 1) := by decide +kernel
theorem zd_L_law_1088 : decode code 1088 = .ok (.invokevirtual 112, 3) := by decide +kernel
theorem zd_L_law_1091 : decode code 1091 = .ok (.aload_n 2, 1) := by decide +kernel
theorem zd_L_law_1092 : decode code 1092 = .ok (.aload_n 0, 1) := by decide +kernel
theorem zd_L_law_1093 : decode code 1093 = .ok (.iload_n 3, 1) := by decide +kernel
theorem zd_L_law_1094 : decode code 1094 = .ok (.iconst 1, 1) := by decide +kernel
theorem zd_L_law_1095 : decode code 1095 = .ok (.iadd, 1) := by decide +kernel
theorem zd_L_law_1096 : decode code 1096 = .ok (.iaload, 1) := by decide +kernel
theorem zd_L_law_1097 : decode code 1097 = .ok (.aload_n 0, 1) := by decide +kernel
theorem zd_L_law_1098 : decode code 1098 = .ok (.iload_n 3, 1) := by decide +kernel
theorem zd_L_law_1099 : decode code 1099 = .ok (.iconst 2, 1) := by decide +kernel
theorem zd_L_law_1100 : decode code 1100 = .ok (.iadd, 1) := by decide +kernel
theorem zd_L_law_1101 : decode code 1101 = .ok (.iaload, 1) := by decide +kernel
theorem zd_L_law_1102 : decode code 1102 = .ok (.invokevirtual 115, 3) := by decide +kernel
theorem zd_L_law_1105 : decode code 1105 = .ok (.if_icmp .eq 364, 3) := by decide +kernel
theorem zd_L_law_1108 : decode code 1108 = .ok (.iconst 0, 1) := by decide +kernel
theorem zd_L_law_1110 : decode code 1110 = .ok (.aload_n 1, 1) := by decide +kernel
theorem zd_L_law_1111 : decode code 1111 = .ok (.aload_n 0, 1) := by decide +kernel
theorem zd_L_law_1112 : decode code 1112 = .ok (.iload_n 3, 1) := by decide +kernel
theorem zd_L_law_1113 : decode code 1113 = .ok (.iconst 1, 1) := by decide +kernel
theorem zd_L_law_1114 : decode code 1114 = .ok (.iadd, 1) := by decide +kernel
theorem zd_L_law_1115 : decode code 1115 = .ok (.iaload, 1) := by decide +kernel
theorem zd_L_law_1116 : decode code 1116 = .ok (.aload_n 0, 1) := by decide +kernel
theorem zd_L_law_1117 : decode code 1117 = .ok (.iload_n 3, 1) := by decide +kernel
theorem zd_L_law_1118 : decode code 1118 = .ok (.iconst 2, 1) := by decide +kernel
theorem zd_L_law_1119 : decode code 1119 = .ok (.iadd, 1) := by decide +kernel
theorem zd_L_law_1120 : decode code 1120 = .ok (.iaload, 1) := by decide +kernel
theorem zd_L_law_1121 : decode code 1121 = .ok (.invokevirtual 116, 3) := by decide +kernel
theorem zd_L_law_1124 : decode code 1124 = .ok (.aload_n 2, 1) := by decide +kernel
theorem zd_L_law_1125 : decode code 1125 = .ok (.aload_n 0, 1) := by decide +kernel
theorem zd_L_law_1126 : decode code 1126 = .ok (.iload_n 3, 1) := by decide +kernel
theorem zd_L_law_1127 : decode code 1127 = .ok (.iconst 1, 1) := by decide +kernel
theorem zd_L_law_1128 : decode code 1128 = .ok (.iadd, 1) := by decide +kernel
theorem zd_L_law_1129 : decode code 1129 = .ok (.iaload, 1) := by decide +kernel
theorem zd_L_law_1130 : decode code 1130 = .ok (.aload_n 0, 1) := by decide +kernel
theorem zd_L_law_1131 : decode code 1131 = .ok (.iload_n 3, 1) := by decide +kernel
theorem zd_L_law_1132 : decode code 1132 = .ok (.iconst 2, 1) := by decide +kernel
theorem zd_L_law_1133 : decode code 1133 = .ok (.iadd, 1) := by decide +kernel
theorem zd_L_law_1134 : decode code 1134 = .ok (.iaload, 1) := by decide +kernel
theorem zd_L_law_1135 : decode code 1135 = .ok (.invokevirtual 119, 3) := by decide +kernel
theorem zd_L_law_1138 : decode code 1138 = .ok (.if_icmp .eq 331, 3) := by decide +kernel
theorem zd_L_law_1141 : decode code 1141 = .ok (.iconst 0, 1) := by decide +kernel
theorem zd_L_law_1143 : decode code 1143 = .ok (.aload_n 1, 1) := by decide +kernel
theorem zd_L_law_1144 : decode code 1144 = .ok (.aload_n 0, 1) := by decide +kernel
theorem zd_L_law_1145 : decode code 1145 = .ok (.iload_n 3, 1) := by decide +kernel
theorem zd_L_law_1146 : decode code 1146 = .ok (.iconst 1, 1) := by decide +kernel
theorem zd_L_law_1147 : decode code 1147 = .ok (.iadd, 1) := by decide +kernel
theorem zd_L_law_1148 : decode code 1148 = .ok (.iaload, 1) := by decide +kernel
theorem zd_L_law_1149 : decode code 1149 = .ok (.aload_n 0, 1) := by decide +kernel
theorem zd_L_law_1150 : decode code 1150 = .ok (.iload_n 3, 1) := by decide +kernel
theorem zd_L_law_1151 : decode code 1151 = .ok (.iconst 2, 1) := by decide +kernel
theorem zd_L_law_1152 : decode code 1152 = .ok (.iadd, 1) := by decide +kernel
theorem zd_L_law_1153 : decode code 1153 = .ok (.iaload, 1) := by decide +kernel
theorem zd_L_law_1154 : decode code 1154 = .ok (.invokevirtual 120, 3) := by decide +kernel
theorem zd_L_law_1157 : decode code 1157 = .ok (.aload_n 2, 1) := by decide +kernel
theorem zd_L_law_1158 : decode code 1158 = .ok (.aload_n 0, 1) := by decide +kernel
theorem zd_L_law_1159 : decode code 1159 = .ok (.iload_n 3, 1) := by decide +kernel
theorem zd_L_law_1160 : decode code 1160 = .ok (.iconst 1, 1) := by decide +kernel
theorem zd_L_law_1161 : decode code 1161 = .ok (.iadd, 1) := by decide +kernel
theorem zd_L_law_1162 : decode code 1162 = .ok (.iaload, 1) := by decide +kernel
theorem zd_L_law_1163 : decode code 1163 = .ok (.aload_n 0, 1) := by decide +kernel
theorem zd_L_law_1164 : decode code 1164 = .ok (.iload_n 3, 1) := by decide +kernel
theorem zd_L_law_1165 : decode code 1165 = .ok (.iconst 2, 1) := by decide +kernel
theorem zd_L_law_1166 : decode code 1166 = .ok (.iadd, 1) := by decide +kernel
theorem zd_L_law_1167 : decode code 1167 = .ok (.iaload, 1) := by decide +kernel
theorem zd_L_law_1168 : decode code 1168 = .ok (.invokevirtual 123, 3) := by decide +kernel
theorem zd_L_law_1171 : decode code 1171 = .ok (.if_icmp .eq 298, 3) := by decide +kernel
theorem zd_L_law_1174 : decode code 1174 = .ok (.iconst 0, 1) := by decide +kernel
theorem zd_L_law_1176 : decode code 1176 = .ok (.aload_n 1, 1) := by decide +kernel
theorem zd_L_law_1177 : decode code 1177 = .ok (.aload_n 0, 1) := by decide +kernel
theorem zd_L_law_1178 : decode code 1178 = .ok (.iload_n 3, 1) := by decide +kernel
theorem zd_L_law_1179 : decode code 1179 = .ok (.iconst 1, 1) := by decide +kernel
theorem zd_L_law_1180 : decode code 1180 = .ok (.iadd, 1) := by decide +kernel
theorem zd_L_law_1181 : decode code 1181 = .ok (.iaload, 1) := by decide +kernel
theorem zd_L_law_1182 : decode code 1182 = .ok (.aload_n 0, 1) := by decide +kernel
theorem zd_L_law_1183 : decode code 1183 = .ok (.iload_n 3, 1) := by decide +kernel
theorem zd_L_law_1184 : decode code 1184 = .ok (.iconst 2, 1) := by decide +kernel
theorem zd_L_law_1185 : decode code 1185 = .ok (.iadd, 1) := by decide +kernel
theorem zd_L_law_1186 : decode code 1186 = .ok (.iaload, 1) := by decide +kernel
theorem zd_L_law_1187 : decode code 1187 = .ok (.invokevirtual 124, 3) := by decide +kernel
theorem zd_L_law_1190 : decode code 1190 = .ok (.aload_n 2, 1) := by decide +kernel
theorem zd_L_law_1191 : decode code 1191 = .ok (.aload_n 0, 1) := by decide +kernel
theorem zd_L_law_1192 : decode code 1192 = .ok (.iload_n 3, 1) := by decide +kernel
theorem zd_L_law_1193 : decode code 1193 = .ok (.iconst 1, 1) := by decide +kernel
theorem zd_L_law_1194 : decode code 1194 = .ok (.iadd, 1) := by decide +kernel
theorem zd_L_law_1195 : decode code 1195 = .ok (.iaload, 1) := by decide +kernel
theorem zd_L_law_1196 : decode code 1196 = .ok (.aload_n 0, 1) := by decide +kernel
theorem zd_L_law_1197 : decode code 1197 = .ok (.iload_n 3, 1) := by decide +kernel
theorem zd_L_law_1198 : decode code 1198 = .ok (.iconst 2, 1) := by decide +kernel
theorem zd_L_law_1199 : decode code 1199 = .ok (.iadd, 1) := by decide +kernel
theorem zd_L_law_1200 : decode code 1200 = .ok (.iaload, 1) := by decide +kernel
theorem zd_L_law_1201 : decode code 1201 = .ok (.invokevirtual 127, 3) := by decide +kernel
theorem zd_L_law_1204 : decode code 1204 = .ok (.if_icmp .eq 265, 3) := by decide +kernel
theorem zd_L_law_1207 : decode code 1207 = .ok (.iconst 0, 1) := by decide +kernel
theorem zd_L_law_1209 : decode code 1209 = .ok (.aload_n 1, 1) := by decide +kernel
theorem zd_L_law_1210 : decode code 1210 = .ok (.aload_n 0, 1) := by decide +kernel
theorem zd_L_law_1211 : decode code 1211 = .ok (.iload_n 3, 1) := by decide +kernel
theorem zd_L_law_1212 : decode code 1212 = .ok (.iconst 1, 1) := by decide +kernel
theorem zd_L_law_1213 : decode code 1213 = .ok (.iadd, 1) := by decide +kernel
theorem zd_L_law_1214 : decode code 1214 = .ok (.iaload, 1) := by decide +kernel
theorem zd_L_law_1215 : decode code 1215 = .ok (.invokevirtual 128, 3) := by decide +kernel
theorem zd_L_law_1218 : decode code 1218 = .ok (.aload_n 2, 1) := by decide +kernel
theorem zd_L_law_1219 : decode code 1219 = .ok (.aload_n 0, 1) := by decide +kernel
theorem zd_L_law_1220 : decode code 1220 = .ok (.iload_n 3, 1) := by decide +kernel
theorem zd_L_law_1221 : decode code 1221 = .ok (.iconst 1, 1) := by decide +kernel
theorem zd_L_law_1222 : decode code 1222 = .ok (.iadd, 1) := by decide +kernel
theorem zd_L_law_1223 : decode code 1223 = .ok (.iaload, 1) := by decide +kernel
theorem zd_L_law_1224 : decode code 1224 = .ok (.invokevirtual 131, 3) := by decide +kernel
theorem zd_L_law_1227 : decode code 1227 = .ok (.if_icmp .eq 242, 3) := by decide +kernel
theorem zd_L_law_1230 : decode code 1230 = .ok (.iconst 0, 1) := by decide +kernel
theorem zd_L_law_1232 : decode code 1232 = .ok (.aload_n 1, 1) := by decide +kernel
theorem zd_L_law_1233 : decode code 1233 = .ok (.aload_n 0, 1) := by decide +kernel
theorem zd_L_law_1234 : decode code 1234 = .ok (.iload_n 3, 1) := by decide +kernel
theorem zd_L_law_1235 : decode code 1235 = .ok (.iconst 1, 1) := by decide +kernel
theorem zd_L_law_1236 : decode code 1236 = .ok (.iadd, 1) := by decide +kernel
theorem zd_L_law_1237 : decode code 1237 = .ok (.iaload, 1) := by decide +kernel
theorem zd_L_law_1238 : decode code 1238 = .ok (.aload_n 0, 1) := by decide +kernel
theorem zd_L_law_1239 : decode code 1239 = .ok (.iload_n 3, 1) := by decide +kernel
theorem zd_L_law_1240 : decode code 1240 = .ok (.iconst 2, 1) := by decide +kernel
theorem zd_L_law_1241 : decode code 1241 = .ok (.iadd, 1) := by decide +kernel
theorem zd_L_law_1242 : decode code 1242 = .ok (.iaload, 1) := by decide +kernel
theorem zd_L_law_1243 : decode code 1243 = .ok (.aload_n 0, 1) := by decide +kernel
theorem zd_L_law_1244 : decode code 1244 = .ok (.iload_n 3, 1) := by decide +kernel
theorem zd_L_law_1245 : decode code 1245 = .ok (.iconst 3, 1) := by decide +kernel
theorem zd_L_law_1246 : decode code 1246 = .ok (.iadd, 1) := by decide +kernel
theorem zd_L_law_1247 : decode code 1247 = .ok (.iaload, 1) := by decide +kernel
theorem zd_L_law_1248 : decode code 1248 = .ok (.invokevirtual 132, 3) := by decide +kernel
theorem zd_L_law_1251 : decode code 1251 = .ok (.aload_n 2, 1) := by decide +kernel
theorem zd_L_law_1252 : decode code 1252 = .ok (.aload_n 0, 1) := by decide +kernel
theorem zd_L_law_1253 : decode code 1253 = .ok (.iload_n 3, 1) := by decide +kernel
theorem zd_L_law_1254 : decode code 1254 = .ok (.iconst 1, 1) := by decide +kernel
theorem zd_L_law_1255 : decode code 1255 = .ok (.iadd, 1) := by decide +kernel
theorem zd_L_law_1256 : decode code 1256 = .ok (.iaload, 1) := by decide +kernel
theorem zd_L_law_1257 : decode code 1257 = .ok (.aload_n 0, 1) := by decide +kernel
theorem zd_L_law_1258 : decode code 1258 = .ok (.iload_n 3, 1) := by decide +kernel
theorem zd_L_law_1259 : decode code 1259 = .ok (.iconst 2, 1) := by decide +kernel
theorem zd_L_law_1260 : decode code 1260 = .ok (.iadd, 1) := by decide +kernel
theorem zd_L_law_1261 : decode code 1261 = .ok (.iaload, 1) := by decide +kernel
theorem zd_L_law_1262 : decode code 1262 = .ok (.aload_n 0, 1) := by decide +kernel
theorem zd_L_law_1263 : decode code 1263 = .ok (.iload_n 3, 1) := by decide +kernel
theorem zd_L_law_1264 : decode code 1264 = .ok (.iconst 3, 1) := by decide +kernel
theorem zd_L_law_1265 : decode code 1265 = .ok (.iadd, 1) := by decide +kernel
theorem zd_L_law_1266 : decode code 1266 = .ok (.iaload, 1) := by decide +kernel
theorem zd_L_law_1267 : decode code 1267 = .ok (.invokevirtual 135, 3) := by decide +kernel
theorem zd_L_law_1270 : decode code 1270 = .ok (.if_icmp .eq 199, 3) := by decide +kernel
theorem zd_L_law_1273 : decode code 1273 = .ok (.iconst 0, 1) := by decide +kernel
theorem zd_L_law_1275 : decode code 1275 = .ok (.aload_n 1, 1) := by decide +kernel
theorem zd_L_law_1276 : decode code 1276 = .ok (.aload_n 0, 1) := by decide +kernel
theorem zd_L_law_1277 : decode code 1277 = .ok (.iload_n 3, 1) := by decide +kernel
theorem zd_L_law_1278 : decode code 1278 = .ok (.iconst 1, 1) := by decide +kernel
theorem zd_L_law_1279 : decode code 1279 = .ok (.iadd, 1) := by decide +kernel
theorem zd_L_law_1280 : decode code 1280 = .ok (.iaload, 1) := by decide +kernel
theorem zd_L_law_1281 : decode code 1281 = .ok (.aload_n 0, 1) := by decide +kernel
theorem zd_L_law_1282 : decode code 1282 = .ok (.iload_n 3, 1) := by decide +kernel
theorem zd_L_law_1283 : decode code 1283 = .ok (.iconst 2, 1) := by decide +kernel
theorem zd_L_law_1284 : decode code 1284 = .ok (.iadd, 1) := by decide +kernel
theorem zd_L_law_1285 : decode code 1285 = .ok (.iaload, 1) := by decide +kernel
theorem zd_L_law_1286 : decode code 1286 = .ok (.invokevirtual 136, 3) := by decide +kernel
theorem zd_L_law_1289 : decode code 1289 = .ok (.aload_n 2, 1) := by decide +kernel
theorem zd_L_law_1290 : decode code 1290 = .ok (.aload_n 0, 1) := by decide +kernel
theorem zd_L_law_1291 : decode code 1291 = .ok (.iload_n 3, 1) := by decide +kernel
theorem zd_L_law_1292 : decode code 1292 = .ok (.iconst 1, 1) := by decide +kernel
theorem zd_L_law_1293 : decode code 1293 = .ok (.iadd, 1) := by decide +kernel
theorem zd_L_law_1294 : decode code 1294 = .ok (.iaload, 1) := by decide +kernel
theorem zd_L_law_1295 : decode code 1295 = .ok (.aload_n 0, 1) := by decide +kernel
theorem zd_L_law_1296 : decode code 1296 = .ok (.iload_n 3, 1) := by decide +kernel
theorem zd_L_law_1297 : decode code 1297 = .ok (.iconst 2, 1) := by decide +kernel
theorem zd_L_law_1298 : decode code 1298 = .ok (.iadd, 1) := by decide +kernel
theorem zd_L_law_1299 : decode code 1299 = .ok (.iaload, 1) := by decide +kernel
theorem zd_L_law_1300 : decode code 1300 = .ok (.invokevirtual 139, 3) := by decide +kernel
theorem zd_L_law_1303 : decode code 1303 = .ok (.if_icmp .eq 166, 3) := by decide +kernel
theorem zd_L_law_1306 : decode code 1306 = .ok (.iconst 0, 1) := by decide +kernel
theorem zd_L_law_1308 : decode code 1308 = .ok (.aload_n 1, 1) := by decide +kernel
theorem zd_L_law_1309 : decode code 1309 = .ok (.aload_n 0, 1) := by decide +kernel
theorem zd_L_law_1310 : decode code 1310 = .ok (.iload_n 3, 1) := by decide +kernel
theorem zd_L_law_1311 : decode code 1311 = .ok (.iconst 1, 1) := by decide +kernel
theorem zd_L_law_1312 : decode code 1312 = .ok (.iadd, 1) := by decide +kernel
theorem zd_L_law_1313 : decode code 1313 = .ok (.iaload, 1) := by decide +kernel
theorem zd_L_law_1314 : decode code 1314 = .ok (.invokevirtual 140, 3) := by decide +kernel
theorem zd_L_law_1317 : decode code 1317 = .ok (.aload_n 2, 1) := by decide +kernel
theorem zd_L_law_1318 : decode code 1318 = .ok (.aload_n 0, 1) := by decide +kernel
theorem zd_L_law_1319 : decode code 1319 = .ok (.iload_n 3, 1) := by decide +kernel
theorem zd_L_law_1320 : decode code 1320 = .ok (.iconst 1, 1) := by decide +kernel
theorem zd_L_law_1321 : decode code 1321 = .ok (.iadd, 1) := by decide +kernel
theorem zd_L_law_1322 : decode code 1322 = .ok (.iaload, 1) := by decide +kernel
theorem zd_L_law_1323 : decode code 1323 = .ok (.invokevirtual 143, 3) := by decide +kernel
theorem zd_L_law_1326 : decode code 1326 = .ok (.if_icmp .eq 143, 3) := by decide +kernel
theorem zd_L_law_1329 : decode code 1329 = .ok (.iconst 0, 1) := by decide +kernel
theorem zd_L_law_1331 : decode code 1331 = .ok (.aload_n 1, 1) := by decide +kernel
theorem zd_L_law_1332 : decode code 1332 = .ok (.aload_n 0, 1) := by decide +kernel
theorem zd_L_law_1333 : decode code 1333 = .ok (.iload_n 3, 1) := by decide +kernel
theorem zd_L_law_1334 : decode code 1334 = .ok (.iconst 1, 1) := by decide +kernel
theorem zd_L_law_1335 : decode code 1335 = .ok (.iadd, 1) := by decide +kernel
theorem zd_L_law_1336 : decode code 1336 = .ok (.iaload, 1) := by decide +kernel
theorem zd_L_law_1337 : decode code 1337 = .ok (.invokevirtual 144, 3) := by decide +kernel
theorem zd_L_law_1340 : decode code 1340 = .ok (.aload_n 2, 1) := by decide +kernel
theorem zd_L_law_1341 : decode code 1341 = .ok (.aload_n 0, 1) := by decide +kernel
theorem zd_L_law_1342 : decode code 1342 = .ok (.iload_n 3, 1) := by decide +kernel
theorem zd_L_law_1343 : decode code 1343 = .ok (.iconst 1, 1) := by decide +kernel
theorem zd_L_law_1344 : decode code 1344 = .ok (.iadd, 1) := by decide +kernel
theorem zd_L_law_1345 : decode code 1345 = .ok (.iaload, 1) := by decide +kernel
theorem zd_L_law_1346 : decode code 1346 = .ok (.invokevirtual 147, 3) := by decide +kernel
theorem zd_L_law_1349 : decode code 1349 = .ok (.if_icmp .eq 120, 3) := by decide +kernel
theorem zd_L_law_1352 : decode code 1352 = .ok (.iconst 0, 1) := by decide +kernel
theorem zd_L_law_1354 : decode code 1354 = .ok (.aload_n 1, 1) := by decide +kernel
theorem zd_L_law_1355 : decode code 1355 = .ok (.aload_n 0, 1) := by decide +kernel
theorem zd_L_law_1356 : decode code 1356 = .ok (.iload_n 3, 1) := by decide +kernel
theorem zd_L_law_1357 : decode code 1357 = .ok (.iconst 1, 1) := by decide +kernel
theorem zd_L_law_1358 : decode code 1358 = .ok (.iadd, 1) := by decide +kernel
theorem zd_L_law_1359 : decode code 1359 = .ok (.iaload, 1) := by decide +kernel
theorem zd_L_law_1360 : decode code 1360 = .ok (.aload_n 0, 1) := by decide +kernel
theorem zd_L_law_1361 : decode code 1361 = .ok (.iload_n 3, 1) := by decide +kernel
theorem zd_L_law_1362 : decode code 1362 = .ok (.iconst 2, 1) := by decide +kernel
theorem zd_L_law_1363 : decode code 1363 = .ok (.iadd, 1) := by decide +kernel
theorem zd_L_law_1364 : decode code 1364 = .ok (.iaload, 1) := by decide +kernel
theorem zd_L_law_1365 : decode code 1365 = .ok (.aload_n 0, 1) := by decide +kernel
theorem zd_L_law_1366 : decode code 1366 = .ok (.iload_n 3, 1) := by decide +kernel
theorem zd_L_law_1367 : decode code 1367 = .ok (.iconst 3, 1) := by decide +kernel
theorem zd_L_law_1368 : decode code 1368 = .ok (.iadd, 1) := by decide +kernel
theorem zd_L_law_1369 : decode code 1369 = .ok (.iaload, 1) := by decide +kernel
theorem zd_L_law_1370 : decode code 1370 = .ok (.invokevirtual 148, 3) := by decide +kernel
theorem zd_L_law_1373 : decode code 1373 = .ok (.aload_n 2, 1) := by decide +kernel
theorem zd_L_law_1374 : decode code 1374 = .ok (.aload_n 0, 1) := by decide +kernel
theorem zd_L_law_1375 : decode code 1375 = .ok (.iload_n 3, 1) := by decide +kernel
theorem zd_L_law_1376 : decode code 1376 = .ok (.iconst 1, 1) := by decide +kernel
theorem zd_L_law_1377 : decode code 1377 = .ok (.iadd, 1) := by decide +kernel
theorem zd_L_law_1378 : decode code 1378 = .ok (.iaload, 1) := by decide +kernel
theorem zd_L_law_1379 : decode code 1379 = .ok (.aload_n 0, 1) := by decide +kernel
theorem zd_L_law_1380 : decode code 1380 = .ok (.iload_n 3, 1) := by decide +kernel
theorem zd_L_law_1381 : decode code 1381 = .ok (.iconst 2, 1) := by decide +kernel
theorem zd_L_law_1382 : decode code 1382 = .ok (.iadd, 1) := by decide +kernel
theorem zd_L_law_1383 : decode code 1383 = .ok (.iaload, 1) := by decide +kernel
theorem zd_L_law_1384 : decode code 1384 = .ok (.aload_n 0, 1) := by decide +kernel
theorem zd_L_law_1385 : decode code 1385 = .ok (.iload_n 3, 1) := by decide +kernel
theorem zd_L_law_1386 : decode code 1386 = .ok (.iconst 3, 1) := by decide +kernel
theorem zd_L_law_1387 : decode code 1387 = .ok (.iadd, 1) := by decide +kernel
theorem zd_L_law_1388 : decode code 1388 = .ok (.iaload, 1) := by decide +kernel
theorem zd_L_law_1389 : decode code 1389 = .ok (.invokevirtual 151, 3) := by decide +kernel
theorem zd_L_law_1392 : decode code 1392 = .ok (.if_icmp .eq 77, 3) := by decide +kernel
theorem zd_L_law_1395 : decode code 1395 = .ok (.iconst 0, 1) := by decide +kernel
theorem zd_L_law_1397 : decode code 1397 = .ok (.aload_n 1, 1) := by decide +kernel
theorem zd_L_law_1398 : decode code 1398 = .ok (.aload_n 0, 1) := by decide +kernel
theorem zd_L_law_1399 : decode code 1399 = .ok (.iload_n 3, 1) := by decide +kernel
theorem zd_L_law_1400 : decode code 1400 = .ok (.iconst 1, 1) := by decide +kernel
theorem zd_L_law_1401 : decode code 1401 = .ok (.iadd, 1) := by decide +kernel
theorem zd_L_law_1402 : decode code 1402 = .ok (.iaload, 1) := by decide +kernel
theorem zd_L_law_1403 : decode code 1403 = .ok (.invokevirtual 152, 3) := by decide +kernel
theorem zd_L_law_1406 : decode code 1406 = .ok (.aload_n 2, 1) := by decide +kernel
theorem zd_L_law_1407 : decode code 1407 = .ok (.aload_n 0, 1) := by decide +kernel
theorem zd_L_law_1408 : decode code 1408 = .ok (.iload_n 3, 1) := by decide +kernel
theorem zd_L_law_1409 : decode code 1409 = .ok (.iconst 1, 1) := by decide +kernel
theorem zd_L_law_1410 : decode code 1410 = .ok (.iadd, 1) := by decide +kernel
theorem zd_L_law_1411 : decode code 1411 = .ok (.iaload, 1) := by decide +kernel
theorem zd_L_law_1412 : decode code 1412 = .ok (.invokevirtual 155, 3) := by decide +kernel
theorem zd_L_law_1415 : decode code 1415 = .ok (.if_icmp .eq 54, 3) := by decide +kernel
theorem zd_L_law_1418 : decode code 1418 = .ok (.iconst 0, 1) := by decide +kernel
theorem zd_L_law_1420 : decode code 1420 = .ok (.aload_n 1, 1) := by decide +kernel
theorem zd_L_law_1421 : decode code 1421 = .ok (.invokevirtual 156, 3) := by decide +kernel
theorem zd_L_law_1424 : decode code 1424 = .ok (.aload_n 2, 1) := by decide +kernel
theorem zd_L_law_1425 : decode code 1425 = .ok (.invokevirtual 159, 3) := by decide +kernel
theorem zd_L_law_1428 : decode code 1428 = .ok (.if_icmp .eq 41, 3) := by decide +kernel
theorem zd_L_law_1431 : decode code 1431 = .ok (.iconst 0, 1) := by decide +kernel
theorem zd_L_law_1433 : decode code 1433 = .ok (.aload_n 1, 1) := by decide +kernel
theorem zd_L_law_1434 : decode code 1434 = .ok (.invokevirtual 160, 3) := by decide +kernel
theorem zd_L_law_1437 : decode code 1437 = .ok (.aload_n 2, 1) := by decide +kernel
theorem zd_L_law_1438 : decode code 1438 = .ok (.invokevirtual 163, 3) := by decide +kernel
theorem zd_L_law_1441 : decode code 1441 = .ok (.if_icmp .eq 28, 3) := by decide +kernel
theorem zd_L_law_1444 : decode code 1444 = .ok (.iconst 0, 1) := by decide +kernel
theorem zd_L_law_1446 : decode code 1446 = .ok (.aload_n 1, 1) := by decide +kernel
theorem zd_L_law_1447 : decode code 1447 = .ok (.aload_n 0, 1) := by decide +kernel
theorem zd_L_law_1448 : decode code 1448 = .ok (.iload_n 3, 1) := by decide +kernel
theorem zd_L_law_1449 : decode code 1449 = .ok (.iconst 1, 1) := by decide +kernel
theorem zd_L_law_1450 : decode code 1450 = .ok (.iadd, 1) := by decide +kernel
theorem zd_L_law_1451 : decode code 1451 = .ok (.iaload, 1) := by decide +kernel
theorem zd_L_law_1452 : decode code 1452 = .ok (.invokevirtual 164, 3) := by decide +kernel
theorem zd_L_law_1455 : decode code 1455 = .ok (.aload_n 2, 1) := by decide +kernel
theorem zd_L_law_1456 : decode code 1456 = .ok (.aload_n 0, 1) := by decide +kernel
theorem zd_L_law_1457 : decode code 1457 = .ok (.iload_n 3, 1) := by decide +kernel
theorem zd_L_law_1458 : decode code 1458 = .ok (.iconst 1, 1) := by decide +kernel
theorem zd_L_law_1459 : decode code 1459 = .ok (.iadd, 1) := by decide +kernel
theorem zd_L_law_1460 : decode code 1460 = .ok (.iaload, 1) := by decide +kernel
theorem zd_L_law_1461 : decode code 1461 = .ok (.invokevirtual 167, 3) := by decide +kernel
theorem zd_L_law_1464 : decode code 1464 = .ok (.if_icmp .eq 5, 3) := by decide +kernel
theorem zd_L_law_1467 : decode code 1467 = .ok (.iconst 0, 1) := by decide +kernel
theorem zd_L_law_1469 : decode code 1469 = .ok (.iinc 3 7, 3) := by decide +kernel
theorem zd_L_law_1472 : decode code 1472 = .ok (.goto (-1454), 3) := by decide +kernel
theorem zd_L_law_1475 : decode code 1475 = .ok (.iconst 1, 1) := by decide +kernel
theorem zd_L_law_1476 : decode code 1476 = .ok (.ireturn, 1) := by decide +kernel
