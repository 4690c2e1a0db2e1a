theorem q351 : Cond.instanceMethod yX1_waterIn ∈ LW := LW_of (List.mem_of_getElem? (i := 351) (by decide +kernel)) rfl
theorem q352 : Cond.selects RX1 yX1_waterIn yX1_waterIn ∈ LW := LW_of (List.mem_of_getElem? (i := 352) (by decide +kernel)) rfl
theorem q353 : Cond.code yX1_waterIn cX1_waterIn 3 (some .int) ∈ LW := LW_of (List.mem_of_getElem? (i := 353) (by decide +kernel)) rfl
theorem q354 : Cond.methodLink RL 130 yX1_bestToTurn ∈ LW := LW_of (List.mem_of_getElem? (i := 354) (by decide +kernel)) rfl
theorem q355 : Cond.instanceMethod yX1_bestToTurn ∈ LW := LW_of (List.mem_of_getElem? (i := 355) (by decide +kernel)) rfl
theorem q356 : Cond.selects RX1 yX1_bestToTurn yX1_bestToTurn ∈ LW := LW_of (List.mem_of_getElem? (i := 356) (by decide +kernel)) rfl
theorem q357 : Cond.code yX1_bestToTurn cX1_bestToTurn 5 (some .int) ∈ LW := LW_of (List.mem_of_getElem? (i := 357) (by decide +kernel)) rfl
theorem q358 : Cond.methodLink RX1 45 yX0_turnDrain ∈ LW := LW_of (List.mem_of_getElem? (i := 358) (by decide +kernel)) rfl
theorem q359 : Cond.instanceMethod yX0_turnDrain ∈ LW := LW_of (List.mem_of_getElem? (i := 359) (by decide +kernel)) rfl
theorem q360 : Cond.selects RX0 yX0_turnDrain yX0_turnDrain ∈ LW := LW_of (List.mem_of_getElem? (i := 360) (by decide +kernel)) rfl
theorem q361 : Cond.code yX0_turnDrain cX0_turnDrain 2 none ∈ LW := LW_of (List.mem_of_getElem? (i := 361) (by decide +kernel)) rfl
theorem q362 : Cond.methodLink RL 138 yX1_bestToFlood ∈ LW := LW_of (List.mem_of_getElem? (i := 362) (by decide +kernel)) rfl
theorem q363 : Cond.instanceMethod yX1_bestToFlood ∈ LW := LW_of (List.mem_of_getElem? (i := 363) (by decide +kernel)) rfl
theorem q364 : Cond.selects RX1 yX1_bestToFlood yX1_bestToFlood ∈ LW := LW_of (List.mem_of_getElem? (i := 364) (by decide +kernel)) rfl
theorem q365 : Cond.code yX1_bestToFlood cX1_bestToFlood 6 (some .int) ∈ LW := LW_of (List.mem_of_getElem? (i := 365) (by decide +kernel)) rfl
theorem q366 : Cond.methodLink RX1 56 yX0_letWaterIn ∈ LW := LW_of (List.mem_of_getElem? (i := 366) (by decide +kernel)) rfl
theorem q367 : Cond.methodLink RL 141 yX1_rainBorne ∈ LW := LW_of (List.mem_of_getElem? (i := 367) (by decide +kernel)) rfl
theorem q368 : Cond.instanceMethod yX1_rainBorne ∈ LW := LW_of (List.mem_of_getElem? (i := 368) (by decide +kernel)) rfl
theorem q369 : Cond.selects RX1 yX1_rainBorne yX1_rainBorne ∈ LW := LW_of (List.mem_of_getElem? (i := 369) (by decide +kernel)) rfl
theorem q370 : Cond.code yX1_rainBorne cX1_rainBorne 3 (some .int) ∈ LW := LW_of (List.mem_of_getElem? (i := 370) (by decide +kernel)) rfl
theorem q371 : Cond.methodLink RL 74 yX1_digest ∈ LW := LW_of (List.mem_of_getElem? (i := 371) (by decide +kernel)) rfl
theorem q372 : Cond.instanceMethod yX1_digest ∈ LW := LW_of (List.mem_of_getElem? (i := 372) (by decide +kernel)) rfl
theorem q373 : Cond.selects RX1 yX1_digest yX1_digest ∈ LW := LW_of (List.mem_of_getElem? (i := 373) (by decide +kernel)) rfl
theorem q374 : Cond.code yX1_digest cX1_digest 3 (some .long) ∈ LW := LW_of (List.mem_of_getElem? (i := 374) (by decide +kernel)) rfl
theorem q375 : Cond.constantLong RX1 138 2341 ∈ LW := LW_of (List.mem_of_getElem? (i := 375) (by decide +kernel)) rfl
theorem q376 : Cond.methodLink RX1 140 yX1_hour ∈ LW := LW_of (List.mem_of_getElem? (i := 376) (by decide +kernel)) rfl
theorem q377 : Cond.instanceMethod yX1_hour ∈ LW := LW_of (List.mem_of_getElem? (i := 377) (by decide +kernel)) rfl
theorem q378 : Cond.selects RX1 yX1_hour yX1_hour ∈ LW := LW_of (List.mem_of_getElem? (i := 378) (by decide +kernel)) rfl
theorem q379 : Cond.code yX1_hour cX1_hour 1 (some .int) ∈ LW := LW_of (List.mem_of_getElem? (i := 379) (by decide +kernel)) rfl
theorem q380 : Cond.methodLink RX1 143 yX1_mix ∈ LW := LW_of (List.mem_of_getElem? (i := 380) (by decide +kernel)) rfl
theorem q381 : Cond.static yX1_mix ∈ LW := LW_of (List.mem_of_getElem? (i := 381) (by decide +kernel)) rfl
theorem q382 : Cond.code yX1_mix cX1_mix 3 (some .long) ∈ LW := LW_of (List.mem_of_getElem? (i := 382) (by decide +kernel)) rfl
theorem q383 : Cond.constantLong RX1 217 31 ∈ LW := LW_of (List.mem_of_getElem? (i := 383) (by decide +kernel)) rfl
theorem q384 : Cond.methodLink RX1 147 yX1_fields ∈ LW := LW_of (List.mem_of_getElem? (i := 384) (by decide +kernel)) rfl
theorem q385 : Cond.methodLink RX1 150 yX1_drains ∈ LW := LW_of (List.mem_of_getElem? (i := 385) (by decide +kernel)) rfl
theorem q386 : Cond.methodLink RX1 153 yX1_rain ∈ LW := LW_of (List.mem_of_getElem? (i := 386) (by decide +kernel)) rfl
theorem q387 : Cond.methodLink RX1 135 yX1_water ∈ LW := LW_of (List.mem_of_getElem? (i := 387) (by decide +kernel)) rfl
theorem q388 : Cond.methodLink RX1 156 yX1_drained ∈ LW := LW_of (List.mem_of_getElem? (i := 388) (by decide +kernel)) rfl
theorem q389 : Cond.methodLink RX1 159 yX1_wetFields ∈ LW := LW_of (List.mem_of_getElem? (i := 389) (by decide +kernel)) rfl
theorem q390 : Cond.instanceMethod yX1_wetFields ∈ LW := LW_of (List.mem_of_getElem? (i := 390) (by decide +kernel)) rfl
theorem q391 : Cond.selects RX1 yX1_wetFields yX1_wetFields ∈ LW := LW_of (List.mem_of_getElem? (i := 391) (by decide +kernel)) rfl
theorem q392 : Cond.code yX1_wetFields cX1_wetFields 3 (some .int) ∈ LW := LW_of (List.mem_of_getElem? (i := 392) (by decide +kernel)) rfl
theorem q393 : Cond.methodLink RX1 83 yX0_isWet ∈ LW := LW_of (List.mem_of_getElem? (i := 393) (by decide +kernel)) rfl
theorem q394 : Cond.methodLink RX1 162 yX1_loss ∈ LW := LW_of (List.mem_of_getElem? (i := 394) (by decide +kernel)) rfl
theorem q395 : Cond.methodLink RX1 165 yX1_highest ∈ LW := LW_of (List.mem_of_getElem? (i := 395) (by decide +kernel)) rfl
theorem q396 : Cond.methodLink RX1 168 yX1_busiest ∈ LW := LW_of (List.mem_of_getElem? (i := 396) (by decide +kernel)) rfl
theorem q397 : Cond.instanceMethod yX1_busiest ∈ LW := LW_of (List.mem_of_getElem? (i := 397) (by decide +kernel)) rfl
theorem q398 : Cond.selects RX1 yX1_busiest yX1_busiest ∈ LW := LW_of (List.mem_of_getElem? (i := 398) (by decide +kernel)) rfl
theorem q399 : Cond.code yX1_busiest cX1_busiest 5 (some .int) ∈ LW := LW_of (List.mem_of_getElem? (i := 399) (by decide +kernel)) rfl
theorem q400 : Cond.methodLink RX1 171 yX1_lossIn ∈ LW := LW_of (List.mem_of_getElem? (i := 400) (by decide +kernel)) rfl
theorem q401 : Cond.methodLink RX1 174 yX1_bestToTurn ∈ LW := LW_of (List.mem_of_getElem? (i := 401) (by decide +kernel)) rfl
theorem q402 : Cond.methodLink RX1 177 yX1_bestToFlood ∈ LW := LW_of (List.mem_of_getElem? (i := 402) (by decide +kernel)) rfl
theorem q403 : Cond.methodLink RX1 180 yX1_rainBorne ∈ LW := LW_of (List.mem_of_getElem? (i := 403) (by decide +kernel)) rfl
theorem q404 : Cond.methodLink RX1 183 yX1_mixFields ∈ LW := LW_of (List.mem_of_getElem? (i := 404) (by decide +kernel)) rfl
theorem q406 : Cond.instanceMethod yX1_mixFields ∈ LW := LW_of (List.mem_of_getElem? (i := 406) (by decide +kernel)) rfl
theorem q407 : Cond.code yX1_mixFields cX1_mixFields 6 (some .long) ∈ LW := LW_of (List.mem_of_getElem? (i := 407) (by decide +kernel)) rfl
theorem q408 : Cond.methodLink RX1 190 yX1_waterOn ∈ LW := LW_of (List.mem_of_getElem? (i := 408) (by decide +kernel)) rfl
theorem q409 : Cond.methodLink RX1 193 yX1_wetFor ∈ LW := LW_of (List.mem_of_getElem? (i := 409) (by decide +kernel)) rfl
theorem q410 : Cond.methodLink RX1 196 yX1_isRuined ∈ LW := LW_of (List.mem_of_getElem? (i := 410) (by decide +kernel)) rfl
theorem q411 : Cond.methodLink RX1 199 yX1_drainsAt ∈ LW := LW_of (List.mem_of_getElem? (i := 411) (by decide +kernel)) rfl
theorem q412 : Cond.methodLink RX1 202 yX1_reaches ∈ LW := LW_of (List.mem_of_getElem? (i := 412) (by decide +kernel)) rfl
theorem q413 : Cond.methodLink RX1 205 yX1_hoursUntilRuined ∈ LW := LW_of (List.mem_of_getElem? (i := 413) (by decide +kernel)) rfl
theorem q414 : Cond.methodLink RX1 187 yX1_mixDrains ∈ LW := LW_of (List.mem_of_getElem? (i := 414) (by decide +kernel)) rfl
theorem q416 : Cond.instanceMethod yX1_mixDrains ∈ LW := LW_of (List.mem_of_getElem? (i := 416) (by decide +kernel)) rfl
theorem q417 : Cond.code yX1_mixDrains cX1_mixDrains 6 (some .long) ∈ LW := LW_of (List.mem_of_getElem? (i := 417) (by decide +kernel)) rfl
theorem q418 : Cond.methodLink RX1 208 yX1_isOpen ∈ LW := LW_of (List.mem_of_getElem? (i := 418) (by decide +kernel)) rfl
theorem q419 : Cond.methodLink RX1 211 yX1_carriedBy ∈ LW := LW_of (List.mem_of_getElem? (i := 419) (by decide +kernel)) rfl
theorem q420 : Cond.methodLink RX1 214 yX1_wouldCarry ∈ LW := LW_of (List.mem_of_getElem? (i := 420) (by decide +kernel)) rfl
theorem q421 : Cond.methodLink RL 133 yX2_copy ∈ LW := LW_of (List.mem_of_getElem? (i := 421) (by decide +kernel)) rfl
theorem q422 : Cond.instanceMethod yX2_copy ∈ LW := LW_of (List.mem_of_getElem? (i := 422) (by decide +kernel)) rfl
theorem q423 : Cond.selects RX2 yX2_copy yX2_copy ∈ LW := LW_of (List.mem_of_getElem? (i := 423) (by decide +kernel)) rfl
set_option maxRecDepth 100000 in
set_option maxHeartbeats 4000000 in
theorem q424 : Cond.code yX2_copy cX2_copy 6 (some (.object "MarshDrainsLaw$Sim")) ∈ LW := LW_of (List.mem_of_getElem? (i := 424) rfl) rfl
theorem q425 : Cond.classLink RX2 10 RX2 ∈ LW := LW_of (List.mem_of_getElem? (i := 425) (by decide +kernel)) rfl
theorem q426 : Cond.instantiable RX2 5 ∈ LW := LW_of (List.mem_of_getElem? (i := 426) (by decide +kernel)) rfl
theorem q427 : Cond.methodLink RX2 18 yX2_init ∈ LW := LW_of (List.mem_of_getElem? (i := 427) (by decide +kernel)) rfl
theorem q428 : Cond.instanceMethod yX2_init ∈ LW := LW_of (List.mem_of_getElem? (i := 428) (by decide +kernel)) rfl
theorem q429 : Cond.code yX2_init cX2_init 1 none ∈ LW := LW_of (List.mem_of_getElem? (i := 429) (by decide +kernel)) rfl
theorem q430 : Cond.methodLink RX2 1 objectInit ∈ LW := LW_of (List.mem_of_getElem? (i := 430) (by decide +kernel)) rfl
theorem q431 : Cond.classLink RX2 7 "[I" ∈ LW := LW_of (List.mem_of_getElem? (i := 431) (by decide +kernel)) rfl
theorem q433 : Cond.fieldLink RX2 9 "MarshDrainsLaw$Sim" "fields" "[[I" ∈ LW := LW_of (List.mem_of_getElem? (i := 433) (by decide +kernel)) rfl
theorem q434 : Cond.fieldLink RL 9 "MarshDrainsLaw$Sim" "fields" "[[I" ∈ LW := LW_of (List.mem_of_getElem? (i := 434) (by decide +kernel)) rfl
theorem q435 : Cond.fieldLink RX2 15 "MarshDrainsLaw$Sim" "drains" "[[I" ∈ LW := LW_of (List.mem_of_getElem? (i := 435) (by decide +kernel)) rfl
theorem q436 : Cond.fieldLink RL 15 "MarshDrainsLaw$Sim" "drains" "[[I" ∈ LW := LW_of (List.mem_of_getElem? (i := 436) (by decide +kernel)) rfl
theorem q437 : Cond.fieldLink RX2 23 "MarshDrainsLaw$Sim" "rain" "I" ∈ LW := LW_of (List.mem_of_getElem? (i := 437) (by decide +kernel)) rfl
theorem q438 : Cond.fieldLink RL 44 "MarshDrainsLaw$Sim" "rain" "I" ∈ LW := LW_of (List.mem_of_getElem? (i := 438) (by decide +kernel)) rfl
theorem q439 : Cond.fieldLink RX2 27 "MarshDrainsLaw$Sim" "hour" "I" ∈ LW := LW_of (List.mem_of_getElem? (i := 439) (by decide +kernel)) rfl
theorem q440 : Cond.fieldLink RX2 30 "MarshDrainsLaw$Sim" "sea" "I" ∈ LW := LW_of (List.mem_of_getElem? (i := 440) (by decide +kernel)) rfl
theorem q452 : Cond.methodLink RX2 19 yX2_with ∈ LW := LW_of (List.mem_of_getElem? (i := 452) (by decide +kernel)) rfl
theorem q453 : Cond.static yX2_with ∈ LW := LW_of (List.mem_of_getElem? (i := 453) (by decide +kernel)) rfl
theorem q454 : Cond.code yX2_with cX2_with 4 (some (.array (.array .int))) ∈ LW := LW_of (List.mem_of_getElem? (i := 454) (by decide +kernel)) rfl
theorem q455 : Cond.methodLink RL 155 yX2_pass ∈ LW := LW_of (List.mem_of_getElem? (i := 455) (by decide +kernel)) rfl
theorem q456 : Cond.instanceMethod yX2_pass ∈ LW := LW_of (List.mem_of_getElem? (i := 456) (by decide +kernel)) rfl
theorem q457 : Cond.selects RX2 yX2_pass yX2_pass ∈ LW := LW_of (List.mem_of_getElem? (i := 457) (by decide +kernel)) rfl
set_option maxRecDepth 100000 in
set_option maxHeartbeats 4000000 in
theorem q458 : Cond.code yX2_pass cX2_pass 6 (some .int) ∈ LW := LW_of (List.mem_of_getElem? (i := 458) rfl) rfl
theorem q459 : Cond.methodLink RX2 51 yX2_carry ∈ LW := LW_of (List.mem_of_getElem? (i := 459) (by decide +kernel)) rfl
theorem q460 : Cond.instanceMethod yX2_carry ∈ LW := LW_of (List.mem_of_getElem? (i := 460) (by decide +kernel)) rfl
theorem q461 : Cond.selects RX2 yX2_carry yX2_carry ∈ LW := LW_of (List.mem_of_getElem? (i := 461) (by decide +kernel)) rfl
theorem q462 : Cond.code yX2_carry cX2_carry 4 none ∈ LW := LW_of (List.mem_of_getElem? (i := 462) (by decide +kernel)) rfl
theorem q463 : Cond.methodLink RX2 47 yX2_amount ∈ LW := LW_of (List.mem_of_getElem? (i := 463) (by decide +kernel)) rfl
theorem q464 : Cond.instanceMethod yX2_amount ∈ LW := LW_of (List.mem_of_getElem? (i := 464) (by decide +kernel)) rfl
theorem q465 : Cond.selects RX2 yX2_amount yX2_amount ∈ LW := LW_of (List.mem_of_getElem? (i := 465) (by decide +kernel)) rfl
set_option maxRecDepth 100000 in
set_option maxHeartbeats 4000000 in
theorem q466 : Cond.code yX2_amount cX2_amount 6 (some .int) ∈ LW := LW_of (List.mem_of_getElem? (i := 466) rfl) rfl
theorem q467 : Cond.methodLink RX2 37 yX2_isBack ∈ LW := LW_of (List.mem_of_getElem? (i := 467) (by decide +kernel)) rfl
theorem q468 : Cond.instanceMethod yX2_isBack ∈ LW := LW_of (List.mem_of_getElem? (i := 468) (by decide +kernel)) rfl
theorem q469 : Cond.selects RX2 yX2_isBack yX2_isBack ∈ LW := LW_of (List.mem_of_getElem? (i := 469) (by decide +kernel)) rfl
theorem q470 : Cond.code yX2_isBack cX2_isBack 2 (some .boolean) ∈ LW := LW_of (List.mem_of_getElem? (i := 470) (by decide +kernel)) rfl
theorem q471 : Cond.methodLink RX2 33 yX2_level ∈ LW := LW_of (List.mem_of_getElem? (i := 471) (by decide +kernel)) rfl
theorem q472 : Cond.instanceMethod yX2_level ∈ LW := LW_of (List.mem_of_getElem? (i := 472) (by decide +kernel)) rfl
theorem q473 : Cond.selects RX2 yX2_level yX2_level ∈ LW := LW_of (List.mem_of_getElem? (i := 473) (by decide +kernel)) rfl
theorem q474 : Cond.code yX2_level cX2_level 2 (some .int) ∈ LW := LW_of (List.mem_of_getElem? (i := 474) (by decide +kernel)) rfl
theorem q475 : Cond.methodLink RX2 41 Lib.Math.min.name ∈ LW := LW_of (List.mem_of_getElem? (i := 475) (by decide +kernel)) rfl
theorem q476 : Cond.methodLink RL 137 yX2_lossIn ∈ LW := LW_of (List.mem_of_getElem? (i := 476) (by decide +kernel)) rfl
theorem q477 : Cond.instanceMethod yX2_lossIn ∈ LW := LW_of (List.mem_of_getElem? (i := 477) (by decide +kernel)) rfl
theorem q478 : Cond.selects RX2 yX2_lossIn yX2_lossIn ∈ LW := LW_of (List.mem_of_getElem? (i := 478) (by decide +kernel)) rfl
theorem q479 : Cond.code yX2_lossIn cX2_lossIn 3 (some .int) ∈ LW := LW_of (List.mem_of_getElem? (i := 479) (by decide +kernel)) rfl
theorem q480 : Cond.methodLink RX2 59 yX2_copy ∈ LW := LW_of (List.mem_of_getElem? (i := 480) (by decide +kernel)) rfl
theorem q481 : Cond.methodLink RX2 63 yX2_pass_ ∈ LW := LW_of (List.mem_of_getElem? (i := 481) (by decide +kernel)) rfl
theorem q482 : Cond.instanceMethod yX2_pass_ ∈ LW := LW_of (List.mem_of_getElem? (i := 482) (by decide +kernel)) rfl
theorem q483 : Cond.selects RX2 yX2_pass_ yX2_pass_ ∈ LW := LW_of (List.mem_of_getElem? (i := 483) (by decide +kernel)) rfl
theorem q484 : Cond.code yX2_pass_ cX2_pass_ 4 (some .int) ∈ LW := LW_of (List.mem_of_getElem? (i := 484) (by decide +kernel)) rfl
theorem q485 : Cond.methodLink RX2 55 yX2_pass ∈ LW := LW_of (List.mem_of_getElem? (i := 485) (by decide +kernel)) rfl
theorem q486 : Cond.methodLink RX2 65 yX2_loss ∈ LW := LW_of (List.mem_of_getElem? (i := 486) (by decide +kernel)) rfl
theorem q487 : Cond.instanceMethod yX2_loss ∈ LW := LW_of (List.mem_of_getElem? (i := 487) (by decide +kernel)) rfl
theorem q488 : Cond.selects RX2 yX2_loss yX2_loss ∈ LW := LW_of (List.mem_of_getElem? (i := 488) (by decide +kernel)) rfl
theorem q489 : Cond.code yX2_loss cX2_loss 6 (some .int) ∈ LW := LW_of (List.mem_of_getElem? (i := 489) (by decide +kernel)) rfl
theorem q490 : Cond.methodLink RL 157 yX2_isSame ∈ LW := LW_of (List.mem_of_getElem? (i := 490) (by decide +kernel)) rfl
theorem q491 : Cond.instanceMethod yX2_isSame ∈ LW := LW_of (List.mem_of_getElem? (i := 491) (by decide +kernel)) rfl
theorem q492 : Cond.selects RX2 yX2_isSame yX2_isSame ∈ LW := LW_of (List.mem_of_getElem? (i := 492) (by decide +kernel)) rfl
set_option maxRecDepth 100000 in
set_option maxHeartbeats 4000000 in
theorem q493 : Cond.code yX2_isSame cX2_isSame 14 (some .boolean) ∈ LW := LW_of (List.mem_of_getElem? (i := 493) rfl) rfl
theorem q494 : Cond.methodLink RX2 68 yX1_waterOn ∈ LW := LW_of (List.mem_of_getElem? (i := 494) (by decide +kernel)) rfl
theorem q495 : Cond.methodLink RX2 73 yX1_levelOf ∈ LW := LW_of (List.mem_of_getElem? (i := 495) (by decide +kernel)) rfl
theorem q496 : Cond.methodLink RX2 76 yX1_wetFor ∈ LW := LW_of (List.mem_of_getElem? (i := 496) (by decide +kernel)) rfl
theorem q497 : Cond.methodLink RX2 79 yX1_isRuined ∈ LW := LW_of (List.mem_of_getElem? (i := 497) (by decide +kernel)) rfl
theorem q498 : Cond.methodLink RX2 83 yX1_drainsAt ∈ LW := LW_of (List.mem_of_getElem? (i := 498) (by decide +kernel)) rfl
theorem q499 : Cond.methodLink RX2 86 yX1_reaches ∈ LW := LW_of (List.mem_of_getElem? (i := 499) (by decide +kernel)) rfl
theorem q500 : Cond.methodLink RX2 89 yX2_reaches ∈ LW := LW_of (List.mem_of_getElem? (i := 500) (by decide +kernel)) rfl
theorem q501 : Cond.instanceMethod yX2_reaches ∈ LW := LW_of (List.mem_of_getElem? (i := 501) (by decide +kernel)) rfl
theorem q502 : Cond.selects RX2 yX2_reaches yX2_reaches ∈ LW := LW_of (List.mem_of_getElem? (i := 502) (by decide +kernel)) rfl
set_option maxRecDepth 100000 in
set_option maxHeartbeats 4000000 in
theorem q503 : Cond.code yX2_reaches cX2_reaches 10 (some .int) ∈ LW := LW_of (List.mem_of_getElem? (i := 503) rfl) rfl
theorem q504 : Cond.methodLink RX2 90 yX1_isPump ∈ LW := LW_of (List.mem_of_getElem? (i := 504) (by decide +kernel)) rfl
theorem q505 : Cond.instanceMethod yX1_isPump ∈ LW := LW_of (List.mem_of_getElem? (i := 505) (by decide +kernel)) rfl
theorem q506 : Cond.selects RX1 yX1_isPump yX1_isPump ∈ LW := LW_of (List.mem_of_getElem? (i := 506) (by decide +kernel)) rfl
theorem q507 : Cond.code yX1_isPump cX1_isPump 2 (some .boolean) ∈ LW := LW_of (List.mem_of_getElem? (i := 507) (by decide +kernel)) rfl
theorem q508 : Cond.methodLink RX2 93 yX1_isOpen ∈ LW := LW_of (List.mem_of_getElem? (i := 508) (by decide +kernel)) rfl
theorem q509 : Cond.methodLink RX2 96 yX1_carriedBy ∈ LW := LW_of (List.mem_of_getElem? (i := 509) (by decide +kernel)) rfl
theorem q510 : Cond.methodLink RX2 99 yX1_wouldCarry ∈ LW := LW_of (List.mem_of_getElem? (i := 510) (by decide +kernel)) rfl
theorem q511 : Cond.methodLink RX2 102 yX1_hour ∈ LW := LW_of (List.mem_of_getElem? (i := 511) (by decide +kernel)) rfl
theorem q512 : Cond.methodLink RX2 104 yX1_fields ∈ LW := LW_of (List.mem_of_getElem? (i := 512) (by decide +kernel)) rfl
theorem q513 : Cond.methodLink RX2 106 yX1_drains ∈ LW := LW_of (List.mem_of_getElem? (i := 513) (by decide +kernel)) rfl
theorem q514 : Cond.methodLink RX2 108 yX1_rain ∈ LW := LW_of (List.mem_of_getElem? (i := 514) (by decide +kernel)) rfl
theorem q515 : Cond.methodLink RX2 110 yX1_water ∈ LW := LW_of (List.mem_of_getElem? (i := 515) (by decide +kernel)) rfl
theorem q516 : Cond.methodLink RX2 113 yX1_drained ∈ LW := LW_of (List.mem_of_getElem? (i := 516) (by decide +kernel)) rfl
theorem q517 : Cond.methodLink RX2 116 yX1_wetFields ∈ LW := LW_of (List.mem_of_getElem? (i := 517) (by decide +kernel)) rfl
theorem q518 : Cond.methodLink RX2 119 yX1_ruinedFields ∈ LW := LW_of (List.mem_of_getElem? (i := 518) (by decide +kernel)) rfl
theorem q519 : Cond.instanceMethod yX1_ruinedFields ∈ LW := LW_of (List.mem_of_getElem? (i := 519) (by decide +kernel)) rfl
theorem q520 : Cond.selects RX1 yX1_ruinedFields yX1_ruinedFields ∈ LW := LW_of (List.mem_of_getElem? (i := 520) (by decide +kernel)) rfl
theorem q521 : Cond.code yX1_ruinedFields cX1_ruinedFields 1 (some .int) ∈ LW := LW_of (List.mem_of_getElem? (i := 521) (by decide +kernel)) rfl
theorem q522 : Cond.methodLink RX2 122 yX1_loss ∈ LW := LW_of (List.mem_of_getElem? (i := 522) (by decide +kernel)) rfl
theorem q523 : Cond.methodLink RX2 123 yX1_highest ∈ LW := LW_of (List.mem_of_getElem? (i := 523) (by decide +kernel)) rfl
theorem q524 : Cond.methodLink RX2 126 yX1_busiest ∈ LW := LW_of (List.mem_of_getElem? (i := 524) (by decide +kernel)) rfl
theorem q525 : Cond.methodLink RX2 129 yX1_meanWater ∈ LW := LW_of (List.mem_of_getElem? (i := 525) (by decide +kernel)) rfl
theorem q526 : Cond.instanceMethod yX1_meanWater ∈ LW := LW_of (List.mem_of_getElem? (i := 526) (by decide +kernel)) rfl
theorem q527 : Cond.selects RX1 yX1_meanWater yX1_meanWater ∈ LW := LW_of (List.mem_of_getElem? (i := 527) (by decide +kernel)) rfl
theorem q528 : Cond.code yX1_meanWater cX1_meanWater 2 (some .double) ∈ LW := LW_of (List.mem_of_getElem? (i := 528) (by decide +kernel)) rfl
theorem q529 : Cond.methodLink RL 18 yL_below ∈ LW := LW_of (List.mem_of_getElem? (i := 529) (by decide +kernel)) rfl
theorem q530 : Cond.static yL_below ∈ LW := LW_of (List.mem_of_getElem? (i := 530) (by decide +kernel)) rfl
theorem q531 : Cond.code yL_below cL_below 2 (some .int) ∈ LW := LW_of (List.mem_of_getElem? (i := 531) (by decide +kernel)) rfl
theorem q532 : Cond.constant RL 7 2147483647 ∈ LW := LW_of (List.mem_of_getElem? (i := 532) (by decide +kernel)) rfl
theorem q533 : Cond.methodLink RL 60 yL_cell ∈ LW := LW_of (List.mem_of_getElem? (i := 533) (by decide +kernel)) rfl
theorem q534 : Cond.static yL_cell ∈ LW := LW_of (List.mem_of_getElem? (i := 534) (by decide +kernel)) rfl
theorem q535 : Cond.code yL_cell cL_cell 2 (some .int) ∈ LW := LW_of (List.mem_of_getElem? (i := 535) (by decide +kernel)) rfl
theorem q536 : Cond.constant RL 8 790386105 ∈ LW := LW_of (List.mem_of_getElem? (i := 536) (by decide +kernel)) rfl
theorem q537 : Cond.methodLink RL 65 yL_act ∈ LW := LW_of (List.mem_of_getElem? (i := 537) (by decide +kernel)) rfl
theorem q538 : Cond.static yL_act ∈ LW := LW_of (List.mem_of_getElem? (i := 538) (by decide +kernel)) rfl
set_option maxRecDepth 100000 in
set_option maxHeartbeats 4000000 in
theorem q539 : Cond.code yL_act cL_act 10 (some .boolean) ∈ LW := LW_of (List.mem_of_getElem? (i := 539) rfl) rfl
theorem q540 : Cond.methodLink RL 24 yX2_with ∈ LW := LW_of (List.mem_of_getElem? (i := 540) (by decide +kernel)) rfl
theorem q541 : Cond.methodLink RL 28 yX1_addField ∈ LW := LW_of (List.mem_of_getElem? (i := 541) (by decide +kernel)) rfl
theorem q542 : Cond.instanceMethod yX1_addField ∈ LW := LW_of (List.mem_of_getElem? (i := 542) (by decide +kernel)) rfl
theorem q543 : Cond.selects RX1 yX1_addField yX1_addField ∈ LW := LW_of (List.mem_of_getElem? (i := 543) (by decide +kernel)) rfl
theorem q544 : Cond.code yX1_addField cX1_addField 4 (some .int) ∈ LW := LW_of (List.mem_of_getElem? (i := 544) (by decide +kernel)) rfl
theorem q545 : Cond.methodLink RX1 23 yX0_putField ∈ LW := LW_of (List.mem_of_getElem? (i := 545) (by decide +kernel)) rfl
theorem q546 : Cond.instanceMethod yX0_putField ∈ LW := LW_of (List.mem_of_getElem? (i := 546) (by decide +kernel)) rfl
theorem q547 : Cond.selects RX0 yX0_putField yX0_putField ∈ LW := LW_of (List.mem_of_getElem? (i := 547) (by decide +kernel)) rfl
theorem q548 : Cond.code yX0_putField cX0_putField 4 (some .int) ∈ LW := LW_of (List.mem_of_getElem? (i := 548) (by decide +kernel)) rfl
theorem q549 : Cond.classLink RX1 27 "java/lang/IllegalStateException" ∈ LW := LW_of (List.mem_of_getElem? (i := 549) (by decide +kernel)) rfl
theorem q550 : Cond.instantiable "java/lang/IllegalStateException" 6 ∈ LW := LW_of (List.mem_of_getElem? (i := 550) (by decide +kernel)) rfl
theorem q565 : Cond.methodLink RL 33 yX1_addDitch ∈ LW := LW_of (List.mem_of_getElem? (i := 565) (by decide +kernel)) rfl
theorem q566 : Cond.instanceMethod yX1_addDitch ∈ LW := LW_of (List.mem_of_getElem? (i := 566) (by decide +kernel)) rfl
theorem q567 : Cond.selects RX1 yX1_addDitch yX1_addDitch ∈ LW := LW_of (List.mem_of_getElem? (i := 567) (by decide +kernel)) rfl
theorem q568 : Cond.code yX1_addDitch cX1_addDitch 4 (some .int) ∈ LW := LW_of (List.mem_of_getElem? (i := 568) (by decide +kernel)) rfl
theorem q569 : Cond.methodLink RX1 38 yX1_addDrain ∈ LW := LW_of (List.mem_of_getElem? (i := 569) (by decide +kernel)) rfl
theorem q571 : Cond.instanceMethod yX1_addDrain ∈ LW := LW_of (List.mem_of_getElem? (i := 571) (by decide +kernel)) rfl
theorem q572 : Cond.code yX1_addDrain cX1_addDrain 6 (some .int) ∈ LW := LW_of (List.mem_of_getElem? (i := 572) (by decide +kernel)) rfl
theorem q574 : Cond.methodLink RX1 224 yX0_putDrain ∈ LW := LW_of (List.mem_of_getElem? (i := 574) (by decide +kernel)) rfl
theorem q575 : Cond.instanceMethod yX0_putDrain ∈ LW := LW_of (List.mem_of_getElem? (i := 575) (by decide +kernel)) rfl
theorem q576 : Cond.selects RX0 yX0_putDrain yX0_putDrain ∈ LW := LW_of (List.mem_of_getElem? (i := 576) (by decide +kernel)) rfl
theorem q577 : Cond.code yX0_putDrain cX0_putDrain 6 (some .int) ∈ LW := LW_of (List.mem_of_getElem? (i := 577) (by decide +kernel)) rfl
theorem q579 : Cond.methodLink RL 37 yX1_addPump ∈ LW := LW_of (List.mem_of_getElem? (i := 579) (by decide +kernel)) rfl
theorem q580 : Cond.instanceMethod yX1_addPump ∈ LW := LW_of (List.mem_of_getElem? (i := 580) (by decide +kernel)) rfl
theorem q581 : Cond.selects RX1 yX1_addPump yX1_addPump ∈ LW := LW_of (List.mem_of_getElem? (i := 581) (by decide +kernel)) rfl
theorem q582 : Cond.code yX1_addPump cX1_addPump 4 (some .int) ∈ LW := LW_of (List.mem_of_getElem? (i := 582) (by decide +kernel)) rfl
theorem q583 : Cond.methodLink RL 40 yX1_turn ∈ LW := LW_of (List.mem_of_getElem? (i := 583) (by decide +kernel)) rfl
theorem q584 : Cond.instanceMethod yX1_turn ∈ LW := LW_of (List.mem_of_getElem? (i := 584) (by decide +kernel)) rfl
theorem q585 : Cond.selects RX1 yX1_turn yX1_turn ∈ LW := LW_of (List.mem_of_getElem? (i := 585) (by decide +kernel)) rfl
theorem q586 : Cond.code yX1_turn cX1_turn 2 (some .boolean) ∈ LW := LW_of (List.mem_of_getElem? (i := 586) (by decide +kernel)) rfl
theorem q587 : Cond.methodLink RL 48 yX1_setRain ∈ LW := LW_of (List.mem_of_getElem? (i := 587) (by decide +kernel)) rfl
theorem q588 : Cond.instanceMethod yX1_setRain ∈ LW := LW_of (List.mem_of_getElem? (i := 588) (by decide +kernel)) rfl
theorem q589 : Cond.selects RX1 yX1_setRain yX1_setRain ∈ LW := LW_of (List.mem_of_getElem? (i := 589) (by decide +kernel)) rfl
theorem q590 : Cond.code yX1_setRain cX1_setRain 3 (some .int) ∈ LW := LW_of (List.mem_of_getElem? (i := 590) (by decide +kernel)) rfl
theorem q591 : Cond.methodLink RL 52 yX1_flood ∈ LW := LW_of (List.mem_of_getElem? (i := 591) (by decide +kernel)) rfl
theorem q592 : Cond.instanceMethod yX1_flood ∈ LW := LW_of (List.mem_of_getElem? (i := 592) (by decide +kernel)) rfl
theorem q593 : Cond.selects RX1 yX1_flood yX1_flood ∈ LW := LW_of (List.mem_of_getElem? (i := 593) (by decide +kernel)) rfl
theorem q594 : Cond.code yX1_flood cX1_flood 3 (some .int) ∈ LW := LW_of (List.mem_of_getElem? (i := 594) (by decide +kernel)) rfl
theorem q595 : Cond.methodLink RL 58 yX2_pass_ ∈ LW := LW_of (List.mem_of_getElem? (i := 595) (by decide +kernel)) rfl
theorem q596 : Cond.methodLink RL 70 yL_build ∈ LW := LW_of (List.mem_of_getElem? (i := 596) (by decide +kernel)) rfl
theorem q597 : Cond.static yL_build ∈ LW := LW_of (List.mem_of_getElem? (i := 597) (by decide +kernel)) rfl
set_option maxRecDepth 100000 in
set_option maxHeartbeats 4000000 in
theorem q598 : Cond.code yL_build cL_build 6 (some (.object "MarshDrainsLaw$Sim")) ∈ LW := LW_of (List.mem_of_getElem? (i := 598) rfl) rfl
theorem q599 : Cond.classLink RL 10 RX2 ∈ LW := LW_of (List.mem_of_getElem? (i := 599) (by decide +kernel)) rfl
theorem q601 : Cond.constant RL 64 16777215 ∈ LW := LW_of (List.mem_of_getElem? (i := 601) (by decide +kernel)) rfl
theorem q602 : Cond.methodLink RL 116 Lib.Math.abs.name ∈ LW := LW_of (List.mem_of_getElem? (i := 602) (by decide +kernel)) rfl
theorem q603 : Cond.methodLink RL 144 Lib.Math.max.name ∈ LW := LW_of (List.mem_of_getElem? (i := 603) (by decide +kernel)) rfl
theorem q604 : Cond.static Lib.Math.max.name ∈ LW := LW_of (List.mem_of_getElem? (i := 604) (by decide +kernel)) rfl
theorem q605 : Cond.code Lib.Math.max.name Lib.Math.max.code 2 (some .int) ∈ LW := LW_of (List.mem_of_getElem? (i := 605) (by decide +kernel)) rfl
